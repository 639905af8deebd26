/** Promises 1 to 14: owners, files and writes. */
public final class FilesTest {
    private static final Class<IndexOutOfBoundsException> INDEX = IndexOutOfBoundsException.class;
    private static final Class<IllegalArgumentException> ARGUMENT = IllegalArgumentException.class;
    private static final Class<IllegalStateException> STATE = IllegalStateException.class;
    private static final Class<UnsupportedOperationException> UNSUPPORTED =
            UnsupportedOperationException.class;
    private static final Class<java.util.NoSuchElementException> ELEMENT =
            java.util.NoSuchElementException.class;

    public static void main(String[] args) {
        newObject();
        addOwner();
        createFile();
        fileCount();
        existence();
        links();
        unlinks();
        writes();
        writesToShared();
        writesRefused();
        punches();
        reads();
        blocks();
        usedBy();
        Checks.finish("FilesTest");
    }

    /** An owner with a quota of 64, file 0, and two of its places written. */
    private static void oneFile(InodeCouncil x) {
        x.addOwner(64);
        x.createFile(0);
        x.write(0, 2, 77);
        x.write(0, 15, 88);
    }

    private static void oneFileGone(InodeCouncil x) {
        oneFile(x);
        x.unlink(0);
    }

    private static void oneFileHeld(InodeCouncil x) {
        oneFile(x);
        x.openHold(0, 5);
        x.unlink(0);
    }

    private static void newObject() {
        InodeCouncil x = new InodeCouncil();
        Checks.due("P1 free", x.free(), 64);
        Checks.due("P1 fileCount", x.fileCount(), 0);
        Checks.due("P1 journalSize", x.journalSize(), 0);
        Checks.due("P1 day", x.day(), 0);
        Checks.due("P1 isConsistent", x.isConsistent(), true);
        for (int block = 0; block < 64; block++) {
            Checks.due("P1 users of " + block, x.usersOf(block), 0);
        }
        Checks.refuses("P1 owner 0", INDEX, y -> { }, y -> y.usedBy(0));
        Checks.refuses("P1 file 0", INDEX, y -> { }, y -> y.doesExist(0));
        Checks.refuses("P1 snapshot 0", INDEX, y -> { }, y -> y.isKept(0));
        Checks.refuses("P1 hold 0", INDEX, y -> { }, y -> y.isOpen(0));
        Checks.refuses("P1 no transaction", STATE, y -> { }, y -> y.commit());
    }

    private static void addOwner() {
        InodeCouncil x = new InodeCouncil();
        int[] quotas = {0, 64, 1, 7};
        for (int owner = 0; owner < 4; owner++) {
            Checks.due("P2 owner", x.addOwner(quotas[owner]), owner);
            Checks.due("P2 uses", x.usedBy(owner), 0);
            Checks.due("P2 promised", x.promisedTo(owner), 0);
        }
        Checks.due("P2 journal", x.journalSize(), 0);
        Checks.Scene four = y -> {
            for (int owner = 0; owner < 4; owner++) {
                y.addOwner(owner);
            }
        };
        Checks.refuses("P2 -1", ARGUMENT, y -> { }, y -> y.addOwner(-1));
        Checks.refuses("P2 65", ARGUMENT, y -> { }, y -> y.addOwner(65));
        Checks.refuses("P2 least", ARGUMENT, y -> { }, y -> y.addOwner(Integer.MIN_VALUE));
        Checks.refuses("P2 in transaction", STATE, y -> y.begin(), y -> y.addOwner(5));
        Checks.refuses("P2 a fifth", STATE, four, y -> y.addOwner(5));
        Checks.refuses("P2 argument first", ARGUMENT, four, y -> y.addOwner(65));
        Checks.refuses("P2 argument first, begun", ARGUMENT, y -> y.begin(), y -> y.addOwner(65));
    }

    private static void createFile() {
        InodeCouncil x = new InodeCouncil();
        x.addOwner(1);
        x.addOwner(1);
        for (int file = 0; file < 40; file++) {
            Checks.due("P3 file", x.createFile(file % 2), file);
        }
        Checks.due("P3 links", x.linksOf(39), 1);
        Checks.due("P3 blocks", x.blocksOf(39), 0);
        Checks.due("P3 exists", x.doesExist(39), true);
        Checks.due("P3 journal", x.journalSize(), 40);
        Checks.due("P3 kind", x.entryKind(39), 'c');
        Checks.due("P3 owner of 39", x.write(39, 0, 5), 0);
        Checks.due("P3 used by 0", x.usedBy(0), 0);
        Checks.due("P3 used by 1", x.usedBy(1), 1);
        Checks.Scene forty = y -> {
            y.addOwner(1);
            for (int file = 0; file < 40; file++) {
                y.createFile(0);
                y.unlink(file);
            }
        };
        Checks.refuses("P3 41", STATE, forty, y -> y.createFile(0));
        Checks.refuses("P3 owner first", INDEX, forty, y -> y.createFile(1));
        Checks.refuses("P3 no owner", INDEX, y -> { }, y -> y.createFile(0));
        Checks.refuses("P3 owner 1", INDEX, FilesTest::oneFile, y -> y.createFile(1));
        Checks.refuses("P3 owner -1", INDEX, FilesTest::oneFile, y -> y.createFile(-1));
        InodeCouncil begun = Checks.made(FilesTest::oneFile);
        begun.begin();
        Checks.due("P3 in transaction", begun.createFile(0), 1);
        begun.crash();
        Checks.due("P3 after crash", begun.createFile(0), 1);
    }

    private static void fileCount() {
        InodeCouncil x = Checks.made(FilesTest::oneFile);
        x.createFile(0);
        Checks.due("P4 two", x.fileCount(), 2);
        x.unlink(1);
        Checks.due("P4 with one gone", x.fileCount(), 2);
        Checks.onlyTells("P4", FilesTest::oneFileGone, y -> y.fileCount());
    }

    private static void existence() {
        Checks.due("P5 made", Checks.made(FilesTest::oneFile).doesExist(0), true);
        Checks.due("P5 gone", Checks.made(FilesTest::oneFileGone).doesExist(0), false);
        InodeCouncil x = Checks.made(FilesTest::oneFileHeld);
        Checks.due("P5 held", x.doesExist(0), true);
        x.release(0);
        Checks.due("P5 released", x.doesExist(0), false);
        InodeCouncil linked = Checks.made(FilesTest::oneFile);
        linked.link(0);
        linked.unlink(0);
        Checks.due("P5 one of two links", linked.doesExist(0), true);
        Checks.refuses("P5 1", INDEX, FilesTest::oneFile, y -> y.doesExist(1));
        Checks.refuses("P5 -1", INDEX, FilesTest::oneFile, y -> y.doesExist(-1));
        Checks.refuses("P5 40", INDEX, FilesTest::oneFile, y -> y.doesExist(40));
        Checks.onlyTells("P5", FilesTest::oneFileGone, y -> y.doesExist(0));
    }

    private static void links() {
        InodeCouncil x = Checks.made(FilesTest::oneFile);
        Checks.due("P6 one", x.linksOf(0), 1);
        for (int links = 2; links <= 9; links++) {
            Checks.due("P7 link", x.link(0), links);
            Checks.due("P6 links", x.linksOf(0), links);
        }
        Checks.due("P7 journal", x.journalSize(), 11);
        Checks.due("P7 kind", x.entryKind(10), 'l');
        Checks.due("P6 gone", Checks.made(FilesTest::oneFileGone).linksOf(0), 0);
        Checks.due("P6 held", Checks.made(FilesTest::oneFileHeld).linksOf(0), 0);
        Checks.refuses("P6 1", INDEX, FilesTest::oneFile, y -> y.linksOf(1));
        Checks.refuses("P6 -1", INDEX, FilesTest::oneFile, y -> y.linksOf(-1));
        Checks.onlyTells("P6", FilesTest::oneFile, y -> y.linksOf(0));
        Checks.refuses("P7 1", INDEX, FilesTest::oneFile, y -> y.link(1));
        Checks.refuses("P7 -1", INDEX, FilesTest::oneFile, y -> y.link(-1));
        Checks.refuses("P7 gone", STATE, FilesTest::oneFileGone, y -> y.link(0));
        Checks.refuses("P7 held", STATE, FilesTest::oneFileHeld, y -> y.link(0));
        Checks.Scene nine = y -> {
            oneFile(y);
            for (int links = 2; links <= 9; links++) {
                y.link(0);
            }
        };
        Checks.refuses("P7 ten", STATE, nine, y -> y.link(0));
    }

    private static void unlinks() {
        InodeCouncil x = Checks.made(FilesTest::oneFile);
        x.link(0);
        Checks.due("P8 first", x.unlink(0), 1);
        Checks.due("P8 still there", x.read(0, 2), 77);
        Checks.due("P8 last", x.unlink(0), 0);
        Checks.due("P8 gone", x.doesExist(0), false);
        Checks.due("P8 blocks", x.blocksOf(0), 0);
        Checks.due("P8 free", x.free(), 64);
        Checks.due("P8 used", x.usedBy(0), 0);
        Checks.due("P8 journal", x.journalSize(), 6);
        Checks.due("P8 kind", x.entryKind(5), 'u');
        InodeCouncil held = Checks.made(FilesTest::oneFileHeld);
        Checks.due("P8 held", held.read(0, 15), 88);
        Checks.due("P8 held used", held.usedBy(0), 2);
        Checks.due("P8 held free", held.free(), 62);
        Checks.refuses("P8 1", INDEX, FilesTest::oneFile, y -> y.unlink(1));
        Checks.refuses("P8 -1", INDEX, FilesTest::oneFile, y -> y.unlink(-1));
        Checks.refuses("P8 gone", STATE, FilesTest::oneFileGone, y -> y.unlink(0));
        Checks.refuses("P8 held", STATE, FilesTest::oneFileHeld, y -> y.unlink(0));
    }

    private static void writes() {
        InodeCouncil x = Checks.made(FilesTest::oneFile);
        Checks.due("P9 in place", x.write(0, 2, 0), 0);
        Checks.due("P9 value", x.read(0, 2), 0);
        Checks.due("P9 in place of 15", x.write(0, 15, 999), 1);
        Checks.due("P9 value of 15", x.read(0, 15), 999);
        Checks.due("P9 first place", x.write(0, 0, 3), 2);
        Checks.due("P9 used", x.usedBy(0), 3);
        Checks.due("P9 users", x.usersOf(2), 1);
        Checks.due("P9 journal", x.journalSize(), 6);
        Checks.due("P9 kind", x.entryKind(5), 'w');
        x.punch(0, 2);
        Checks.due("P9 lowest block", x.write(0, 9, 4), 0);
        Checks.due("P9 next block", x.write(0, 8, 4), 3);
    }

    private static void writesToShared() {
        InodeCouncil x = new InodeCouncil();
        x.addOwner(2);
        x.createFile(0);
        x.write(0, 0, 1);
        x.write(0, 1, 2);
        x.takeSnapshot(0);
        Checks.due("P9 shared at the quota", x.write(0, 0, 1), 2);
        Checks.due("P9 old value", x.readFrom(0, 0, 0), 1);
        Checks.due("P9 users of old", x.usersOf(0), 1);
        Checks.due("P9 used", x.usedBy(0), 2);
        Checks.due("P9 own again", x.write(0, 0, 9), 2);
        Checks.due("P9 new value", x.read(0, 0), 9);
        Checks.due("P9 snapshot's value", x.readFrom(0, 0, 0), 1);
        x.restore(0, 0);
        x.thin(0);
        Checks.due("P9 no more shared", x.write(0, 0, 5), 0);
    }

    private static void writesRefused() {
        Checks.Scene scene = FilesTest::oneFile;
        Checks.refuses("P9 file", INDEX, scene, y -> y.write(1, 0, 0));
        Checks.refuses("P9 file -1", INDEX, scene, y -> y.write(-1, 0, 0));
        Checks.refuses("P9 place", INDEX, scene, y -> y.write(0, 16, 0));
        Checks.refuses("P9 place -1", INDEX, scene, y -> y.write(0, -1, 0));
        Checks.refuses("P9 place before value", INDEX, scene, y -> y.write(0, 16, 1000));
        Checks.refuses("P9 value", ARGUMENT, scene, y -> y.write(0, 2, 1000));
        Checks.refuses("P9 value -1", ARGUMENT, scene, y -> y.write(0, 2, -1));
        Checks.refuses("P9 value first", ARGUMENT, FilesTest::oneFileGone, y -> y.write(0, 2, -1));
        Checks.refuses("P9 gone", STATE, FilesTest::oneFileGone, y -> y.write(0, 2, 1));
        Checks.refuses("P9 held", STATE, FilesTest::oneFileHeld, y -> y.write(0, 2, 1));
        Checks.Scene atQuota = y -> {
            y.addOwner(1);
            y.createFile(0);
            y.createFile(0);
            y.write(0, 0, 1);
        };
        Checks.refuses("P9 quota", UNSUPPORTED, atQuota, y -> y.write(0, 1, 1));
        Checks.refuses("P9 quota of all files", UNSUPPORTED, atQuota, y -> y.write(1, 0, 1));
        Checks.refuses("P9 held counts", UNSUPPORTED, y -> {
            atQuota.play(y);
            y.openHold(0, 1);
            y.unlink(0);
        }, y -> y.write(1, 0, 1));
        Checks.refuses("P9 links before blocks", STATE, y -> {
            atQuota.play(y);
            y.unlink(1);
        }, y -> y.write(1, 0, 1));
        Checks.Scene promised = y -> {
            y.addOwner(64);
            y.addOwner(64);
            y.createFile(0);
            y.promise(1, 63);
            y.write(0, 0, 1);
        };
        Checks.refuses("P9 promised", UNSUPPORTED, promised, y -> y.write(0, 1, 1));
        Checks.refuses("P9 promised, shared", UNSUPPORTED, y -> {
            promised.play(y);
            y.takeSnapshot(0);
        }, y -> y.write(0, 0, 1));
        Checks.due("P9 promised, own", Checks.made(promised).write(0, 0, 2), 0);
        allBlocks();
    }

    private static void allBlocks() {
        Checks.Scene full = y -> {
            y.addOwner(64);
            for (int block = 0; block < 64; block++) {
                if (block % 16 == 0) {
                    y.createFile(0);
                }
                y.write(block / 16, block % 16, block);
            }
            y.addOwner(64);
            y.createFile(1);
        };
        InodeCouncil x = Checks.made(full);
        Checks.due("P9 all used", x.free(), 0);
        Checks.due("P9 last block", x.blockAt(3, 15), 63);
        Checks.due("P9 all count", x.usedBy(0), 64);
        Checks.refuses("P9 none free", UNSUPPORTED, full, y -> y.write(4, 0, 1));
    }

    private static void punches() {
        InodeCouncil x = Checks.made(FilesTest::oneFile);
        Checks.due("P10 block", x.punch(0, 15), 1);
        Checks.due("P10 free", x.free(), 63);
        Checks.due("P10 blocks", x.blocksOf(0), 1);
        Checks.due("P10 kind", x.entryKind(3), 'h');
        x.takeSnapshot(1);
        Checks.due("P10 shared", x.punch(0, 2), 0);
        Checks.due("P10 snapshot keeps", x.readFrom(0, 0, 2), 77);
        Checks.due("P10 users", x.usersOf(0), 1);
        Checks.due("P10 still used", x.free(), 63);
        Checks.due("P10 journal", x.journalSize(), 5);
        Checks.Scene scene = FilesTest::oneFile;
        Checks.refuses("P10 file", INDEX, scene, y -> y.punch(1, 2));
        Checks.refuses("P10 file -1", INDEX, scene, y -> y.punch(-1, 2));
        Checks.refuses("P10 place", INDEX, scene, y -> y.punch(0, 16));
        Checks.refuses("P10 place -1", INDEX, scene, y -> y.punch(0, -1));
        Checks.refuses("P10 hole", STATE, scene, y -> y.punch(0, 0));
        Checks.refuses("P10 gone", STATE, FilesTest::oneFileGone, y -> y.punch(0, 2));
        Checks.refuses("P10 held", STATE, FilesTest::oneFileHeld, y -> y.punch(0, 2));
        Checks.refuses("P10 gone, place", INDEX, FilesTest::oneFileGone, y -> y.punch(0, 16));
    }

    private static void reads() {
        InodeCouncil x = Checks.made(FilesTest::oneFile);
        Checks.due("P11 value", x.read(0, 2), 77);
        Checks.due("P12 block", x.blockAt(0, 2), 0);
        Checks.due("P11 value of 15", x.read(0, 15), 88);
        Checks.due("P12 block of 15", x.blockAt(0, 15), 1);
        InodeCouncil held = Checks.made(FilesTest::oneFileHeld);
        Checks.due("P11 held", held.read(0, 2), 77);
        Checks.due("P12 held", held.blockAt(0, 2), 0);
        Checks.Scene scene = FilesTest::oneFile;
        Checks.Scene gone = FilesTest::oneFileGone;
        Checks.onlyTells("P11", scene, y -> y.read(0, 2));
        Checks.onlyTells("P12", scene, y -> y.blockAt(0, 2));
        Checks.refuses("P11 file", INDEX, scene, y -> y.read(1, 2));
        Checks.refuses("P11 file -1", INDEX, scene, y -> y.read(-1, 2));
        Checks.refuses("P11 place", INDEX, scene, y -> y.read(0, 16));
        Checks.refuses("P11 place -1", INDEX, scene, y -> y.read(0, -1));
        Checks.refuses("P11 hole", ELEMENT, scene, y -> y.read(0, 0));
        Checks.refuses("P11 gone", ELEMENT, gone, y -> y.read(0, 2));
        Checks.refuses("P11 gone, place", INDEX, gone, y -> y.read(0, 16));
        Checks.refuses("P12 file", INDEX, scene, y -> y.blockAt(1, 2));
        Checks.refuses("P12 file -1", INDEX, scene, y -> y.blockAt(-1, 2));
        Checks.refuses("P12 place", INDEX, scene, y -> y.blockAt(0, 16));
        Checks.refuses("P12 place -1", INDEX, scene, y -> y.blockAt(0, -1));
        Checks.refuses("P12 hole", ELEMENT, scene, y -> y.blockAt(0, 0));
        Checks.refuses("P12 gone", ELEMENT, gone, y -> y.blockAt(0, 2));
        Checks.refuses("P12 gone, place", INDEX, gone, y -> y.blockAt(0, 16));
    }

    private static void blocks() {
        InodeCouncil x = Checks.made(FilesTest::oneFile);
        Checks.due("P13 two", x.blocksOf(0), 2);
        for (int place = 0; place < 16; place++) {
            x.write(0, place, 1);
        }
        Checks.due("P13 all", x.blocksOf(0), 16);
        Checks.due("P13 gone", Checks.made(FilesTest::oneFileGone).blocksOf(0), 0);
        Checks.due("P13 held", Checks.made(FilesTest::oneFileHeld).blocksOf(0), 2);
        Checks.onlyTells("P13", FilesTest::oneFile, y -> y.blocksOf(0));
        Checks.refuses("P13 1", INDEX, FilesTest::oneFile, y -> y.blocksOf(1));
        Checks.refuses("P13 -1", INDEX, FilesTest::oneFile, y -> y.blocksOf(-1));
    }

    private static void usedBy() {
        InodeCouncil x = Checks.made(FilesTest::oneFile);
        x.addOwner(64);
        x.createFile(1);
        x.createFile(0);
        x.write(1, 0, 1);
        x.write(2, 0, 1);
        Checks.due("P14 two files", x.usedBy(0), 3);
        Checks.due("P14 other owner", x.usedBy(1), 1);
        x.takeSnapshot(0);
        Checks.due("P14 with snapshot", x.usedBy(0), 3);
        x.write(0, 2, 1);
        Checks.due("P14 written anew", x.usedBy(0), 3);
        x.punch(0, 15);
        Checks.due("P14 in the snapshot alone", x.usedBy(0), 2);
        Checks.due("P14 held", Checks.made(FilesTest::oneFileHeld).usedBy(0), 2);
        Checks.due("P14 gone", Checks.made(FilesTest::oneFileGone).usedBy(0), 0);
        Checks.onlyTells("P14", FilesTest::oneFile, y -> y.usedBy(0));
        Checks.refuses("P14 1", INDEX, FilesTest::oneFile, y -> y.usedBy(1));
        Checks.refuses("P14 -1", INDEX, FilesTest::oneFile, y -> y.usedBy(-1));
        Checks.refuses("P14 4", INDEX, FilesTest::oneFile, y -> y.usedBy(4));
    }
}
