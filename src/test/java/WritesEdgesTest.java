/** Promise 9 at its boundaries, with what the terms say of blocks, owners and writes. */
public final class WritesEdgesTest {
    public static void main(String[] args) {
        files();
        places();
        values();
        withoutLinks();
        ownBlock();
        sharedBlock();
        shareEnds();
        quota();
        quotaOfSharedBlock();
        quotaCountsOthers();
        quotaDoesNotCount();
        freeBlocks();
        freeForOthersAlone();
        promisedFirst();
        promisedLast();
        lowestBlock();
        lowestBlockFreed();
        allBlocksHoldValues();
        Checks.finish("WritesEdgesTest");
    }

    /** An owner with this quota, and two files without blocks. */
    private static Checks.Scene quotaOf(int quota) {
        return x -> {
            x.addOwner(quota);
            x.createFile(0);
            x.createFile(0);
        };
    }

    /** Owners 0 and 1 with a file each, 0 and 1; file 2 of owner 0 leaves this many blocks free. */
    private static Checks.Scene leftFree(int free) {
        return x -> {
            x.addOwner(64);
            x.addOwner(64);
            x.createFile(0);
            x.createFile(1);
            for (int file = 2; file < 6; file++) {
                x.createFile(0);
            }
            Scenes.fill(x, 2, 64 - free);
        };
    }

    // "if there is no such file or place"
    private static void files() {
        for (int files : new int[] {0, 1, 2, 40}) {
            Checks.bounds("P9 of " + files + " files, file", Thrown.INDEX, 0, files - 1,
                    Scenes.files(files), (x, file) -> x.write(file, 0, 5) + " " + x.blocksOf(file),
                    file -> "0 1");
        }
    }

    // "the place, 0 to 15"
    private static void places() {
        Checks.bounds("P9 place", Thrown.INDEX, 0, 15, Scenes.files(1),
                (x, place) -> x.write(0, place, 5) + " " + x.read(0, place), place -> "0 5");
        Checks.bounds("P9 place that has a block", Thrown.INDEX, 0, 15,
                Scenes.then(Scenes.files(1), x -> Scenes.fill(x, 0, 16)),
                (x, place) -> x.write(0, place, 5) + " " + x.read(0, place), place -> place + " 5");
    }

    // "the value, 0 to 999"
    private static void values() {
        Checks.bounds("P9 value", Thrown.ARGUMENT, 0, 999, Scenes.files(1),
                (x, value) -> x.write(0, 0, value) + " " + x.read(0, 0), value -> "0 " + value);
        Checks.bounds("P9 value in place", Thrown.ARGUMENT, 0, 999, Scenes.snapshots(0),
                (x, value) -> x.write(0, 15, value) + " " + x.read(0, 15), value -> "15 " + value);
        Checks.bounds("P9 value of a shared place", Thrown.ARGUMENT, 0, 999, Scenes.snapshots(1),
                (x, value) -> x.write(0, 15, value) + " " + x.read(0, 15), value -> "16 " + value);
    }

    // "if the file has no links"
    private static void withoutLinks() {
        Checks.Scene gone = Scenes.then(Scenes.snapshots(0), x -> x.unlink(0));
        Checks.Scene held = Scenes.then(Scenes.holds(1), x -> x.unlink(0));
        Checks.refuses("P9 gone", Thrown.STATE, gone, x -> x.write(0, 0, 1));
        Checks.refuses("P9 held", Thrown.STATE, held, x -> x.write(0, 0, 1));
        InodeCouncil oneOfTwo = Checks.made(Scenes.files(1));
        oneOfTwo.link(0);
        oneOfTwo.unlink(0);
        Checks.due("P9 one link", oneOfTwo.write(0, 0, 1), 0);
    }

    // "When a place has a block that no other place and no snapshot uses, the value in it is
    // replaced."
    private static void ownBlock() {
        InodeCouncil x = Checks.made(Scenes.files(1));
        Checks.due("P9 hole", x.write(0, 7, 1), 0);
        Checks.due("P9 own block", x.write(0, 7, 2), 0);
        Checks.due("P9 own block, value", x.read(0, 7), 2);
        Checks.due("P9 own block, users", x.usersOf(0), 1);
        Checks.due("P9 own block, same value", x.write(0, 7, 2), 0);
        Checks.due("P9 own block, free", x.free(), 63);
    }

    private static void sharedBlock() {
        for (int kept : new int[] {1, 2, 8}) {
            InodeCouncil x = Checks.made(Scenes.snapshots(kept));
            Checks.due("P9 shared by " + kept, x.write(0, 3, 900), 16);
            Checks.due("P9 shared by " + kept + ", users", x.usersOf(3), kept);
            Checks.due("P9 shared by " + kept + ", own users", x.usersOf(16), 1);
            Checks.due("P9 shared by " + kept + ", value", x.read(0, 3), 900);
            Checks.due("P9 shared by " + kept + ", old value", x.readFrom(kept - 1, 0, 3), 3);
            Checks.due("P9 shared by " + kept + ", next", x.write(0, 3, 901), 16);
        }
        InodeCouncil same = Checks.made(Scenes.snapshots(1));
        Checks.due("P9 shared, same value", same.write(0, 3, 3), 16);
    }

    /** The last other user of a block goes: then it is the place's own. */
    private static void shareEnds() {
        Checks.Scene two = Scenes.snapshots(2);
        Checks.due("P9 two snapshots left", Checks.made(two).write(0, 3, 9), 16);
        Checks.due("P9 one snapshot left",
                Checks.made(Scenes.then(two, x -> x.thin(1))).write(0, 3, 9), 16);
        Checks.due("P9 no snapshot left",
                Checks.made(Scenes.then(two, x -> x.thin(0))).write(0, 3, 9), 3);
        InodeCouncil restored = Checks.made(Scenes.snapshots(1));
        restored.write(0, 3, 9);
        restored.restore(0, 0);
        Checks.due("P9 restored", restored.write(0, 3, 8), 16);
    }

    // "the owner may take it if not more blocks count for the owner afterwards than the quota"
    private static void quota() {
        Checks.refuses("P9 quota 0", Thrown.UNSUPPORTED, quotaOf(0), x -> x.write(0, 0, 1));
        for (int quota : new int[] {1, 2, 15}) {
            Checks.Scene below = Scenes.then(quotaOf(quota), x -> Scenes.fill(x, 0, quota - 1));
            Checks.Scene at = Scenes.then(quotaOf(quota), x -> Scenes.fill(x, 0, quota));
            Checks.due("P9 to quota " + quota, Checks.made(below).write(0, 15, 1), quota - 1);
            Checks.due("P9 to quota " + quota + " in another file",
                    Checks.made(below).write(1, 15, 1), quota - 1);
            Checks.refuses("P9 beyond quota " + quota, Thrown.UNSUPPORTED, at,
                    x -> x.write(0, 15, 1));
            Checks.refuses("P9 beyond quota " + quota + " in another file", Thrown.UNSUPPORTED, at,
                    x -> x.write(1, 15, 1));
            Checks.due("P9 own block at quota " + quota, Checks.made(at).write(0, 0, 9), 0);
        }
    }

    /** The block that the place had does not count afterwards. */
    private static void quotaOfSharedBlock() {
        for (int quota : new int[] {1, 2, 15}) {
            Checks.Scene shared = Scenes.then(quotaOf(quota), x -> {
                Scenes.fill(x, 0, quota);
                x.takeSnapshot(0);
            });
            InodeCouncil x = Checks.made(shared);
            for (int place = 0; place < quota; place++) {
                Checks.due("P9 shared at quota " + quota, x.write(0, place, 9), quota + place);
                Checks.due("P9 shared at quota " + quota + ", used", x.usedBy(0), quota);
            }
            Checks.refuses("P9 hole at quota " + quota, Thrown.UNSUPPORTED, shared,
                    y -> y.write(0, 15, 9));
        }
    }

    private static void quotaCountsOthers() {
        Checks.Scene held = Scenes.then(quotaOf(1), x -> {
            x.write(0, 0, 1);
            x.openHold(0, 5);
            x.unlink(0);
            x.pass(4);
        });
        Checks.refuses("P9 a held file counts", Thrown.UNSUPPORTED, held, x -> x.write(1, 0, 1));
        Checks.due("P9 its hold has ended", Checks.made(Scenes.then(held, x -> x.pass(1)))
                .write(1, 0, 1), 0);
        Checks.Scene linked = Scenes.then(quotaOf(1), x -> {
            x.write(0, 0, 1);
            x.link(0);
            x.unlink(0);
        });
        Checks.refuses("P9 a file with a link counts", Thrown.UNSUPPORTED, linked,
                x -> x.write(1, 0, 1));
        Checks.due("P9 a file that is gone does not", Checks.made(Scenes.then(linked,
                x -> x.unlink(0))).write(1, 0, 1), 0);
    }

    private static void quotaDoesNotCount() {
        InodeCouncil others = Checks.made(quotaOf(1));
        others.addOwner(1);
        others.createFile(1);
        others.write(2, 0, 1);
        Checks.due("P9 another owner's block", others.write(0, 0, 1), 1);
        InodeCouncil snapshot = Checks.made(quotaOf(1));
        snapshot.write(0, 0, 1);
        snapshot.takeSnapshot(0);
        snapshot.punch(0, 0);
        Checks.due("P9 a block in a snapshot alone", snapshot.write(0, 1, 1), 1);
        InodeCouncil promised = Checks.made(quotaOf(1));
        promised.promise(0, 64);
        Checks.due("P9 promised blocks", promised.write(0, 0, 1), 0);
        Checks.due("P9 promised blocks don't raise it",
                Checks.answer(promised, x -> x.write(0, 1, 1)), Thrown.UNSUPPORTED.getName());
    }

    // "it must be free for the owner"
    private static void freeBlocks() {
        Checks.due("P9 two free", Checks.made(leftFree(2)).write(0, 0, 1), 62);
        Checks.due("P9 one free", Checks.made(leftFree(1)).write(0, 0, 1), 63);
        Checks.refuses("P9 none free", Thrown.UNSUPPORTED, leftFree(0), x -> x.write(1, 0, 1));
        Checks.due("P9 none free, own block", Checks.made(leftFree(0)).write(2, 0, 1), 0);
        Checks.Scene shared = Scenes.then(leftFree(0), x -> x.takeSnapshot(0));
        Checks.refuses("P9 none free, shared", Thrown.UNSUPPORTED, shared, x -> x.write(2, 0, 1));
        Checks.Scene onlyInSnapshot = Scenes.then(shared, x -> x.unlink(2));
        Checks.refuses("P9 none free, snapshots use them", Thrown.UNSUPPORTED, onlyInSnapshot,
                x -> x.write(1, 0, 1));
        Checks.due("P9 free when it is dropped", Checks.made(Scenes.then(onlyInSnapshot,
                x -> x.thin(0))).write(1, 0, 1), 0);
    }

    // "as many as are promised to an owner are free for this owner alone"
    private static void freeForOthersAlone() {
        Checks.Scene one = Scenes.then(leftFree(1), x -> x.promise(0, 1));
        Checks.refuses("P9 one free, promised to another", Thrown.UNSUPPORTED, one,
                x -> x.write(1, 0, 1));
        Checks.due("P9 one free, promised to the owner", Checks.made(one).write(0, 0, 1), 63);
        Checks.Scene shared = Scenes.then(leftFree(2), x -> {
            x.write(1, 0, 1);
            x.takeSnapshot(0);
            x.promise(0, 1);
        });
        Checks.refuses("P9 shared, one free, promised to another", Thrown.UNSUPPORTED, shared,
                x -> x.write(1, 0, 2));
        InodeCouncil two = Checks.made(Scenes.then(leftFree(2), x -> x.promise(0, 1)));
        Checks.due("P9 two free, one promised to another", two.write(1, 0, 1), 62);
        Checks.due("P9 then one, promised to another", Checks.answer(two, x -> x.write(1, 1, 1)),
                Thrown.UNSUPPORTED.getName());
        two.giveBack(0);
        Checks.due("P9 given back", two.write(1, 1, 1), 63);
    }

    // "one that is promised to the owner is taken first, by which one less is promised"
    private static void promisedFirst() {
        InodeCouncil x = Checks.made(Scenes.then(leftFree(64), y -> y.promise(0, 2)));
        int[] left = {1, 0, 0};
        int[] free = {62, 62, 61};
        for (int place = 0; place < 3; place++) {
            x.write(0, place, 1);
            Checks.due("P19 left", x.promisedTo(0), left[place]);
            Checks.due("P18 free for everybody", x.promise(1, free[place]), free[place]);
            Checks.due("P18 and no more", Checks.answer(x, y -> y.promise(1, 1)),
                    Thrown.UNSUPPORTED.getName());
            x.giveBack(1);
        }
        x.promise(0, 1);
        x.write(0, 0, 2);
        Checks.due("P19 own block", x.promisedTo(0), 1);
        x.takeSnapshot(0);
        x.write(0, 0, 3);
        Checks.due("P19 shared block", x.promisedTo(0), 0);
    }

    /** Promised blocks to the last one, then those that are free for everybody, to the last one. */
    private static void promisedLast() {
        InodeCouncil x = Checks.made(Scenes.then(leftFree(3), y -> {
            y.promise(0, 1);
            y.promise(1, 1);
        }));
        Checks.due("P9 the promised", x.write(0, 0, 1) + " " + x.promisedTo(0), "61 0");
        Checks.due("P9 the one for everybody", x.write(0, 1, 1) + " " + x.promisedTo(1), "62 1");
        Checks.due("P9 none for the owner", Checks.answer(x, y -> y.write(0, 2, 1)),
                Thrown.UNSUPPORTED.getName());
        Checks.due("P9 the other's", x.write(1, 0, 1) + " " + x.promisedTo(1), "63 0");
        Checks.due("P9 none at all", Checks.answer(x, y -> y.write(1, 1, 1)),
                Thrown.UNSUPPORTED.getName());
    }

    // "A new block is always the free one with the lowest number."
    private static void lowestBlock() {
        InodeCouncil x = Checks.made(leftFree(0));
        for (int block : new int[] {0, 1, 31, 32, 62, 63}) {
            x.punch(2 + block / 16, block % 16);
            Checks.due("P9 the only one free", x.write(1, 5, 1), block);
            x.punch(1, 5);
            x.write(2 + block / 16, block % 16, 1);
        }
        x.punch(5, 15);
        x.punch(2, 0);
        Checks.due("P9 the lower", x.write(1, 1, 1), 0);
        Checks.due("P9 the higher", x.write(1, 2, 1), 63);
        InodeCouncil promised = Checks.made(Scenes.then(leftFree(64), y -> y.promise(1, 63)));
        Checks.due("P9 whatever is promised", promised.write(0, 0, 1), 0);
        Checks.due("P9 whatever is promised to it", promised.write(1, 0, 1), 1);
    }

    /** However a block gets free, it is the next that is taken. */
    private static void lowestBlockFreed() {
        Checks.Scene scene = Scenes.then(Scenes.files(3), x -> {
            x.write(0, 0, 1);
            x.write(1, 0, 2);
        });
        Checks.Scene held = Scenes.then(scene, x -> {
            x.openHold(0, 3);
            x.unlink(0);
        });
        Checks.Scene kept = Scenes.then(scene, x -> {
            x.takeSnapshot(0);
            x.unlink(0);
        });
        freed("not freed", scene, x -> { }, 2);
        freed("punched", scene, x -> x.punch(0, 0), 0);
        freed("unlinked", scene, x -> x.unlink(0), 0);
        freed("held", held, x -> x.pass(2), 2);
        freed("passed", held, x -> x.pass(3), 0);
        freed("released", held, x -> x.release(0), 0);
        freed("in a snapshot", kept, x -> x.thin(1), 2);
        freed("dropped", kept, x -> x.thin(0), 0);
        freed("restored", Scenes.files(3), x -> {
            x.takeSnapshot(0);
            x.write(0, 0, 1);
            x.write(1, 0, 2);
            x.restore(0, 0);
        }, 0);
        freed("crashed", Scenes.files(3), x -> {
            x.begin();
            x.write(0, 0, 1);
            x.crash();
        }, 0);
    }

    private static void freed(String how, Checks.Scene scene, Checks.Scene freeing, int block) {
        Checks.due("P9 block 0 " + how, Checks.made(Scenes.then(scene, freeing)).write(2, 0, 1),
                block);
    }

    // "There are 64 blocks, numbered from 0, each of which can hold a value."
    private static void allBlocksHoldValues() {
        InodeCouncil x = Checks.made(Scenes.files(4));
        for (int block = 0; block < 64; block++) {
            Checks.due("P9 block", x.write(block / 16, block % 16, 999 - block), block);
        }
        for (int block = 0; block < 64; block++) {
            Checks.due("P11 of block " + block, x.read(block / 16, block % 16), 999 - block);
        }
        Checks.due("P15 none free", x.free(), 0);
    }
}
