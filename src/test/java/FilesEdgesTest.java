/** Promises 1 to 8 and 10 to 14 at their boundaries; those of promise 9 are in WritesEdgesTest. */
public final class FilesEdgesTest {
    private static final int[] SOME_FILES = {0, 1, 2, 40};

    public static void main(String[] args) {
        newObject();
        newObjectRefuses();
        quotaRange();
        quotaHolds();
        ownersInAll();
        addOwnerInTransaction();
        createFileOwner();
        filesInAll();
        filesInAllWithTransactions();
        newFile();
        fileCount();
        fileNumbers();
        existence();
        gone();
        links();
        unlinks();
        linksAreNotChanged();
        punchRanges();
        punchHoles();
        punchWithoutLinks();
        readRanges();
        readHoles();
        readLast();
        blocksOf();
        usedByOwners();
        usedBy();
        usedByCountsOnce();
        Checks.finish("FilesEdgesTest");
    }

    /** File 0 with a value in every place: value and block are the place's number. */
    private static void full(InodeCouncil x) {
        Scenes.files(1).play(x);
        Scenes.fill(x, 0, 16);
    }

    private static void fullAndGone(InodeCouncil x) {
        full(x);
        x.unlink(0);
    }

    private static void fullAndHeld(InodeCouncil x) {
        full(x);
        x.openHold(0, 5);
        x.unlink(0);
    }

    private static Checks.Scene linked(int links) {
        return x -> {
            full(x);
            for (int link = 1; link < links; link++) {
                x.link(0);
            }
        };
    }

    // "Creates a keeper without owners and files, whose blocks are free."
    private static void newObject() {
        InodeCouncil x = new InodeCouncil();
        for (int block = 0; block < 64; block++) {
            Checks.due("P1 usersOf " + block, x.usersOf(block), 0);
            Checks.due("P1 usersByWalk " + block, x.usersByWalk(block), 0);
        }
        Checks.due("P1 free", x.free(), 64);
        Checks.due("P1 fileCount", x.fileCount(), 0);
        Checks.due("P1 day", x.day(), 0);
        Checks.due("P1 journalSize", x.journalSize(), 0);
        Checks.due("P1 isConsistent", x.isConsistent(), true);
        Checks.due("P1 thin", x.thin(0), 0);
        Checks.due("P1 crash", x.crash(), 0);
        InodeCouncil used = new InodeCouncil();
        full(used);
        used.takeSnapshot(1);
        used.begin();
        InodeCouncil another = new InodeCouncil();
        Checks.due("P1 beside another, free", another.free(), 64);
        Checks.due("P1 beside another, owner", another.addOwner(1), 0);
        Checks.due("P1 beside another, file", another.createFile(0), 0);
        Checks.due("P1 beside another, snapshot", another.takeSnapshot(1), 0);
        Checks.due("P1 the other", used.commit(), 0);
    }

    private static void newObjectRefuses() {
        Checks.Scene none = Scenes.NEW;
        Checks.refuses("P1 createFile", Thrown.INDEX, none, x -> x.createFile(0));
        Checks.refuses("P1 usedBy", Thrown.INDEX, none, x -> x.usedBy(0));
        Checks.refuses("P1 promise", Thrown.INDEX, none, x -> x.promise(0, 1));
        Checks.refuses("P1 promisedTo", Thrown.INDEX, none, x -> x.promisedTo(0));
        Checks.refuses("P1 giveBack", Thrown.INDEX, none, x -> x.giveBack(0));
        Checks.refuses("P1 isKept", Thrown.INDEX, none, x -> x.isKept(0));
        Checks.refuses("P1 readFrom", Thrown.INDEX, none, x -> x.readFrom(0, 0, 0));
        Checks.refuses("P1 restore", Thrown.INDEX, none, x -> x.restore(0, 0));
        Checks.refuses("P1 nextToDrop", Thrown.ELEMENT, none, x -> x.nextToDrop());
        Checks.refuses("P1 release", Thrown.INDEX, none, x -> x.release(0));
        Checks.refuses("P1 isOpen", Thrown.INDEX, none, x -> x.isOpen(0));
        Checks.refuses("P1 nextEnd", Thrown.ELEMENT, none, x -> x.nextEnd());
        Checks.refuses("P1 commit", Thrown.STATE, none, x -> x.commit());
        Checks.refuses("P1 entryKind", Thrown.INDEX, none, x -> x.entryKind(0));
        Checks.refuses("P1 meanUsers", Thrown.ARITHMETIC, none, x -> x.meanUsers());
        Checks.refuses("P1 heldShare", Thrown.ARITHMETIC, none, x -> x.heldShare());
        Checks.refuses("P1 lineAt", Thrown.INDEX, none, x -> x.lineAt(0));
    }

    // "the quota in blocks, 0 to 64"
    private static void quotaRange() {
        Checks.bounds("P2 quota", Thrown.ARGUMENT, 0, 64, Scenes.NEW,
                (x, quota) -> x.addOwner(quota), quota -> 0);
    }

    private static void quotaHolds() {
        for (int quota : new int[] {0, 1, 2, 16, 17, 62, 63, 64}) {
            InodeCouncil x = new InodeCouncil();
            x.addOwner(quota);
            for (int file = 0; file < 5; file++) {
                x.createFile(0);
            }
            Scenes.fill(x, 0, quota);
            Checks.due("P2 quota " + quota + " is used", x.usedBy(0), quota);
            Checks.due("P2 quota " + quota + " is all", Checks.answer(x, y -> y.write(4, 15, 1)),
                    Thrown.UNSUPPORTED.getName());
        }
    }

    // "At most 4 owners are numbered from 0", "if ... there are 4 owners"
    private static void ownersInAll() {
        for (int owners = 0; owners < 4; owners++) {
            Checks.due("P2 owner " + owners, Checks.made(Scenes.owners(owners)).addOwner(3),
                    owners);
        }
        Checks.refuses("P2 a fifth owner", Thrown.STATE, Scenes.owners(4), x -> x.addOwner(0));
        Checks.Scene refused = Scenes.then(Scenes.owners(3), x -> Checks.answer(x,
                y -> y.addOwner(65)));
        Checks.due("P2 refused owners don't count", Checks.made(refused).addOwner(64), 3);
    }

    // "if a transaction is open"
    private static void addOwnerInTransaction() {
        Checks.refuses("P2 begun", Thrown.STATE, Scenes.begun(Scenes.owners(3)),
                x -> x.addOwner(0));
        Checks.refuses("P2 begun, 4 owners", Thrown.STATE, Scenes.begun(Scenes.owners(4)),
                x -> x.addOwner(0));
        InodeCouncil x = Checks.made(Scenes.begun(Scenes.owners(2)));
        x.commit();
        Checks.due("P2 committed", x.addOwner(1), 2);
        x.begin();
        x.crash();
        Checks.due("P2 crashed", x.addOwner(1), 3);
    }

    // "if there is no such owner"
    private static void createFileOwner() {
        for (int owners : new int[] {0, 1, 2, 4}) {
            Checks.bounds("P3 of " + owners + " owners, owner", Thrown.INDEX, 0, owners - 1,
                    Scenes.owners(owners), (x, owner) -> x.createFile(owner), owner -> 0);
        }
        Checks.Scene noQuota = x -> x.addOwner(0);
        Checks.due("P3 with a quota of 0", Checks.made(noQuota).createFile(0), 0);
        InodeCouncil noBlock = Checks.made(Scenes.files(4));
        Scenes.fill(noBlock, 0, 64);
        Checks.due("P3 without free blocks", noBlock.createFile(0), 4);
    }

    // "At most 40 files are created in all", "if there have been 40 files"
    private static void filesInAll() {
        for (int files : new int[] {0, 1, 38, 39}) {
            Checks.due("P3 file " + files, Checks.made(Scenes.files(files)).createFile(0), files);
        }
        Checks.refuses("P3 a 41st file", Thrown.STATE, Scenes.files(40), x -> x.createFile(0));
        Checks.refuses("P3 a 41st file, one is gone", Thrown.STATE,
                Scenes.then(Scenes.files(40), x -> x.unlink(39)), x -> x.createFile(0));
        Checks.Scene allGone = Scenes.then(Scenes.files(40), x -> {
            for (int file = 0; file < 40; file++) {
                x.unlink(file);
            }
        });
        Checks.refuses("P3 a 41st file, all are gone", Thrown.STATE, allGone, x -> x.createFile(0));
        Checks.due("P3 the 40th, others are gone", Checks.made(Scenes.then(Scenes.files(39),
                x -> x.unlink(0))).createFile(0), 39);
    }

    private static void filesInAllWithTransactions() {
        InodeCouncil x = Checks.made(Scenes.begun(Scenes.files(39)));
        Checks.due("P3 the 40th, begun", x.createFile(0), 39);
        Checks.due("P3 the 41st, begun", Checks.answer(x, y -> y.createFile(0)),
                Thrown.STATE.getName());
        x.crash();
        Checks.due("P4 one taken back", x.fileCount(), 39);
        Checks.due("P3 the 40th again", x.createFile(0), 39);
        Checks.refuses("P3 a 41st file, begun", Thrown.STATE, Scenes.begun(Scenes.files(40)),
                y -> y.createFile(0));
        Checks.refuses("P5 a file that is taken back", Thrown.INDEX,
                Scenes.then(Scenes.begun(Scenes.files(1)), y -> {
                    y.createFile(0);
                    y.crash();
                }), y -> y.doesExist(1));
    }

    // "with one link and without blocks", "all are holes at first"
    private static void newFile() {
        for (int file : new int[] {0, 1, 39}) {
            Checks.Scene scene = Scenes.files(file + 1);
            InodeCouncil x = Checks.made(scene);
            Checks.due("P3 links of file " + file, x.linksOf(file), 1);
            Checks.due("P3 blocks of file " + file, x.blocksOf(file), 0);
            Checks.due("P3 holds on file " + file, x.holdsOn(file), 0);
            Checks.due("P3 free with file " + file, x.free(), 64);
            for (int number = 0; number < 16; number++) {
                int place = number;
                Checks.due("P3 read " + place, Checks.answer(x, y -> y.read(file, place)),
                        Thrown.ELEMENT.getName());
                Checks.due("P3 blockAt " + place, Checks.answer(x, y -> y.blockAt(file, place)),
                        Thrown.ELEMENT.getName());
                Checks.due("P3 punch " + place, Checks.answer(x, y -> y.punch(file, place)),
                        Thrown.STATE.getName());
            }
        }
    }

    // "those that are gone included"
    private static void fileCount() {
        for (int files : new int[] {0, 1, 2, 39, 40}) {
            Checks.due("P4 of " + files, Checks.made(Scenes.files(files)).fileCount(), files);
        }
        InodeCouncil x = Checks.made(Scenes.files(40));
        Checks.answer(x, y -> y.createFile(0));
        Checks.due("P4 with one refused", x.fileCount(), 40);
        for (int file = 0; file < 40; file++) {
            x.unlink(file);
        }
        Checks.due("P4 with all gone", x.fileCount(), 40);
    }

    // "if there is no such file"
    private static void fileNumbers() {
        for (int files : SOME_FILES) {
            Checks.Scene scene = Scenes.files(files);
            String of = " of " + files + " files, file";
            Checks.bounds("P5" + of, Thrown.INDEX, 0, files - 1, scene,
                    (x, file) -> x.doesExist(file), file -> true);
            Checks.bounds("P6" + of, Thrown.INDEX, 0, files - 1, scene,
                    (x, file) -> x.linksOf(file), file -> 1);
            Checks.bounds("P7" + of, Thrown.INDEX, 0, files - 1, scene,
                    (x, file) -> x.link(file) + " " + x.linksOf(file), file -> "2 2");
            Checks.bounds("P8" + of, Thrown.INDEX, 0, files - 1, scene,
                    (x, file) -> x.unlink(file) + " " + x.doesExist(file), file -> "0 false");
            Checks.bounds("P13" + of, Thrown.INDEX, 0, files - 1, scene,
                    (x, file) -> x.blocksOf(file), file -> 0);
        }
    }

    // "A file exists as long as it has links or a hold on it is open"
    private static void existence() {
        InodeCouncil x = Checks.made(Scenes.files(1));
        Checks.due("P5 links, no hold", x.doesExist(0), true);
        x.openHold(0, 2);
        Checks.due("P5 links and a hold", x.doesExist(0), true);
        x.unlink(0);
        Checks.due("P5 no links, a hold", x.doesExist(0), true);
        x.pass(1);
        Checks.due("P5 no links, the hold's last day", x.doesExist(0), true);
        x.pass(1);
        Checks.due("P5 no links, no hold", x.doesExist(0), false);
        InodeCouncil linked = Checks.made(Scenes.files(1));
        linked.openHold(0, 1);
        linked.pass(1);
        Checks.due("P5 links, the hold has ended", linked.doesExist(0), true);
        linked.unlink(0);
        Checks.due("P5 no links, the hold has ended", linked.doesExist(0), false);
    }

    // "when it has neither any more, it is gone: all its places are holes, and it never comes back"
    private static void gone() {
        InodeCouncil x = Checks.made(FilesEdgesTest::full);
        x.takeSnapshot(0);
        x.unlink(0);
        for (int number = 0; number < 16; number++) {
            int place = number;
            Checks.due("P11 gone, place " + place, Checks.answer(x, y -> y.read(0, place)),
                    Thrown.ELEMENT.getName());
        }
        Checks.due("P13 gone", x.blocksOf(0), 0);
        Checks.due("P7 gone", Checks.answer(x, y -> y.link(0)), Thrown.STATE.getName());
        Checks.due("P9 gone", Checks.answer(x, y -> y.write(0, 0, 1)), Thrown.STATE.getName());
        Checks.due("P26 gone", Checks.answer(x, y -> y.restore(0, 0)), Thrown.STATE.getName());
        Checks.due("P27 gone", Checks.answer(x, y -> y.openHold(0, 1)), Thrown.STATE.getName());
        x.begin();
        x.crash();
        Checks.due("P36 gone before", x.doesExist(0), false);
        Checks.due("P3 another number", x.createFile(0), 1);
        Checks.due("P5 still gone", x.doesExist(0), false);
    }

    // "if it has no links, or has 9"
    private static void links() {
        for (int links : new int[] {1, 2, 7, 8}) {
            Checks.due("P7 from " + links, Checks.made(linked(links)).link(0), links + 1);
            Checks.due("P6 of " + links, Checks.made(linked(links)).linksOf(0), links);
        }
        Checks.due("P6 of 9", Checks.made(linked(9)).linksOf(0), 9);
        Checks.refuses("P7 from 9", Thrown.STATE, linked(9), x -> x.link(0));
        Checks.refuses("P7 from 9, begun", Thrown.STATE, Scenes.begun(linked(9)), x -> x.link(0));
        Checks.refuses("P7 from 0", Thrown.STATE, FilesEdgesTest::fullAndGone, x -> x.link(0));
        Checks.refuses("P7 from 0, held", Thrown.STATE, FilesEdgesTest::fullAndHeld,
                x -> x.link(0));
        InodeCouncil x = Checks.made(linked(9));
        Checks.due("P8 from 9", x.unlink(0), 8);
        Checks.due("P7 to 9 again", x.link(0), 9);
        Checks.due("P7 to 9, others have none", x.createFile(0) + x.link(1), 3);
    }

    // "the number of links that are left", "if it has no links"
    private static void unlinks() {
        for (int links : new int[] {9, 8, 2}) {
            InodeCouncil x = Checks.made(linked(links));
            Checks.due("P8 from " + links, x.unlink(0), links - 1);
            Checks.due("P8 from " + links + ", blocks", x.blocksOf(0), 16);
            Checks.due("P8 from " + links + ", free", x.free(), 48);
        }
        InodeCouncil last = Checks.made(linked(1));
        Checks.due("P8 from 1", last.unlink(0), 0);
        Checks.due("P8 from 1, exists", last.doesExist(0), false);
        Checks.due("P8 from 1, blocks", last.blocksOf(0), 0);
        Checks.due("P8 from 1, free", last.free(), 64);
        InodeCouncil held = Checks.made(Scenes.then(linked(1), x -> x.openHold(0, 1)));
        Checks.due("P8 from 1, held", held.unlink(0), 0);
        Checks.due("P8 from 1, held, exists", held.doesExist(0), true);
        Checks.due("P8 from 1, held, free", held.free(), 48);
        Checks.refuses("P8 from 0", Thrown.STATE, FilesEdgesTest::fullAndGone, x -> x.unlink(0));
        Checks.refuses("P8 from 0, held", Thrown.STATE, FilesEdgesTest::fullAndHeld,
                x -> x.unlink(0));
    }

    // "Links and places of files without links are not changed."
    private static void linksAreNotChanged() {
        Checks.Scene held = Scenes.then(FilesEdgesTest::full, x -> {
            x.takeSnapshot(5);
            x.punch(0, 15);
            x.openHold(0, 5);
            x.unlink(0);
        });
        Checks.refuses("P7 held", Thrown.STATE, held, x -> x.link(0));
        Checks.refuses("P8 held", Thrown.STATE, held, x -> x.unlink(0));
        Checks.refuses("P9 held, its block", Thrown.STATE, held, x -> x.write(0, 0, 1));
        Checks.refuses("P9 held, a hole", Thrown.STATE, held, x -> x.write(0, 15, 1));
        Checks.refuses("P10 held", Thrown.STATE, held, x -> x.punch(0, 0));
        Checks.refuses("P26 held", Thrown.STATE, held, x -> x.restore(0, 0));
    }

    // "if there is no such file or place", "the place, 0 to 15"
    private static void punchRanges() {
        for (int files : SOME_FILES) {
            Checks.Scene scene = Scenes.then(Scenes.files(files), FilesEdgesTest::onePlaceEach);
            Checks.bounds("P10 of " + files + " files, file", Thrown.INDEX, 0, files - 1, scene,
                    (x, file) -> x.punch(file, 3), file -> file);
        }
        Checks.bounds("P10 place", Thrown.INDEX, 0, 15, FilesEdgesTest::full,
                (x, place) -> x.punch(0, place), place -> place);
    }

    private static void onePlaceEach(InodeCouncil x) {
        for (int file = 0; file < x.fileCount(); file++) {
            x.write(file, 3, 900 + file);
        }
    }

    // "or there is a hole"
    private static void punchHoles() {
        Checks.Scene punched = Scenes.then(FilesEdgesTest::full, x -> {
            x.punch(0, 0);
            x.punch(0, 15);
        });
        Checks.refuses("P10 hole at 0", Thrown.STATE, punched, x -> x.punch(0, 0));
        Checks.refuses("P10 hole at 15", Thrown.STATE, punched, x -> x.punch(0, 15));
        InodeCouncil x = Checks.made(punched);
        Checks.due("P10 beside a hole", x.punch(0, 1), 1);
        Checks.due("P10 beside a hole, 14", x.punch(0, 14), 14);
        Checks.due("P10 free", x.free(), 52);
        Checks.due("P10 blocks", x.blocksOf(0), 12);
        for (int place = 2; place < 14; place++) {
            Checks.due("P10 all", x.punch(0, place), place);
        }
        Checks.due("P10 all, exists", x.doesExist(0), true);
        Checks.due("P10 all, free", x.free(), 64);
    }

    // "if the file has no links"
    private static void punchWithoutLinks() {
        Checks.refuses("P10 gone", Thrown.STATE, FilesEdgesTest::fullAndGone, x -> x.punch(0, 0));
        Checks.refuses("P10 held", Thrown.STATE, FilesEdgesTest::fullAndHeld, x -> x.punch(0, 0));
        Checks.Scene oneOfTwo = Scenes.then(FilesEdgesTest::full, x -> {
            x.link(0);
            x.unlink(0);
        });
        Checks.due("P10 one link", Checks.made(oneOfTwo).punch(0, 9), 9);
        InodeCouncil shared = Checks.made(Scenes.snapshots(1));
        Checks.due("P10 shared", shared.punch(0, 9), 9);
        Checks.due("P10 shared, users", shared.usersOf(9), 1);
        Checks.due("P10 shared, free", shared.free(), 48);
    }

    private static void readRanges() {
        for (int files : SOME_FILES) {
            Checks.Scene scene = Scenes.then(Scenes.files(files), FilesEdgesTest::onePlaceEach);
            Checks.bounds("P11 of " + files + " files, file", Thrown.INDEX, 0, files - 1, scene,
                    (x, file) -> x.read(file, 3), file -> 900 + file);
            Checks.bounds("P12 of " + files + " files, file", Thrown.INDEX, 0, files - 1, scene,
                    (x, file) -> x.blockAt(file, 3), file -> file);
        }
        Checks.bounds("P11 place", Thrown.INDEX, 0, 15, FilesEdgesTest::full,
                (x, place) -> x.read(0, place), place -> place);
        Checks.bounds("P12 place", Thrown.INDEX, 0, 15, FilesEdgesTest::full,
                (x, place) -> x.blockAt(0, place), place -> place);
    }

    // "if there is a hole, or the file does not exist"
    private static void readHoles() {
        Checks.Scene ends = Scenes.then(FilesEdgesTest::full, x -> {
            x.punch(0, 0);
            x.punch(0, 15);
        });
        for (int place : new int[] {0, 15}) {
            Checks.refuses("P11 hole", Thrown.ELEMENT, ends, x -> x.read(0, place));
            Checks.refuses("P12 hole", Thrown.ELEMENT, ends, x -> x.blockAt(0, place));
            Checks.refuses("P11 gone", Thrown.ELEMENT, FilesEdgesTest::fullAndGone,
                    x -> x.read(0, place));
            Checks.refuses("P12 gone", Thrown.ELEMENT, FilesEdgesTest::fullAndGone,
                    x -> x.blockAt(0, place));
            InodeCouncil held = Checks.made(FilesEdgesTest::fullAndHeld);
            Checks.due("P11 held", held.read(0, place), place);
            Checks.due("P12 held", held.blockAt(0, place), place);
        }
        for (int place : new int[] {1, 14}) {
            Checks.due("P11 beside a hole", Checks.made(ends).read(0, place), place);
            Checks.due("P12 beside a hole", Checks.made(ends).blockAt(0, place), place);
        }
    }

    /** The last block, and the least and the greatest value. */
    private static void readLast() {
        InodeCouncil x = Checks.made(Scenes.files(4));
        Scenes.fill(x, 0, 64);
        x.write(3, 15, 999);
        x.write(0, 0, 0);
        Checks.due("P11 value 999", x.read(3, 15), 999);
        Checks.due("P11 value 0", x.read(0, 0), 0);
        Checks.due("P12 block 63", x.blockAt(3, 15), 63);
        Checks.due("P12 block 0", x.blockAt(0, 0), 0);
    }

    private static void blocksOf() {
        for (int places : new int[] {0, 1, 2, 15, 16}) {
            InodeCouncil x = Checks.made(Scenes.files(2));
            Scenes.fill(x, 1, places);
            Checks.due("P13 of " + places, x.blocksOf(1), places);
            Checks.due("P13 of " + places + ", other file", x.blocksOf(0), 0);
        }
        InodeCouncil x = Checks.made(FilesEdgesTest::full);
        x.punch(0, 15);
        Checks.due("P13 without the last", x.blocksOf(0), 15);
        Checks.due("P13 gone", Checks.made(FilesEdgesTest::fullAndGone).blocksOf(0), 0);
        Checks.due("P13 held", Checks.made(FilesEdgesTest::fullAndHeld).blocksOf(0), 16);
    }

    // "if there is no such owner"
    private static void usedByOwners() {
        for (int owners : new int[] {0, 1, 3, 4}) {
            Checks.bounds("P14 of " + owners + " owners, owner", Thrown.INDEX, 0, owners - 1,
                    Scenes.owners(owners), (x, owner) -> x.usedBy(owner), owner -> 0);
        }
    }

    // "used by places of files of the owner that exist"
    private static void usedBy() {
        for (int blocks : new int[] {0, 1, 63, 64}) {
            InodeCouncil x = Checks.made(Scenes.files(4));
            Scenes.fill(x, 0, blocks);
            x.addOwner(64);
            Checks.due("P14 of " + blocks, x.usedBy(0), blocks);
            Checks.due("P14 of " + blocks + ", other owner", x.usedBy(1), 0);
        }
        Checks.due("P14 gone", Checks.made(FilesEdgesTest::fullAndGone).usedBy(0), 0);
        InodeCouncil held = Checks.made(FilesEdgesTest::fullAndHeld);
        Checks.due("P14 held", held.usedBy(0), 16);
        held.pass(4);
        Checks.due("P14 the hold's last day", held.usedBy(0), 16);
        held.pass(1);
        Checks.due("P14 the hold has ended", held.usedBy(0), 0);
    }

    // "each block counted once"
    private static void usedByCountsOnce() {
        InodeCouncil x = Checks.made(Scenes.snapshots(8));
        Checks.due("P14 users", x.usersOf(0), 9);
        Checks.due("P14 with 8 snapshots", x.usedBy(0), 16);
        x.punch(0, 0);
        Checks.due("P14 in snapshots alone", x.usedBy(0), 15);
        x.write(0, 0, 7);
        Checks.due("P14 a block of its own", x.usedBy(0), 16);
        x.restore(0, 0);
        Checks.due("P14 restored", x.usedBy(0), 16);
    }
}
