/** Promises 15 to 20 at their boundaries. */
public final class BlocksEdgesTest {
    private static final int[] SOME_OWNERS = {0, 1, 2, 4};

    public static void main(String[] args) {
        free();
        blockNumbers();
        usersOfFiles();
        usersOfSnapshots();
        promiseOwners();
        promiseNumbers();
        promiseFree();
        promiseLessPromised();
        promisedTo();
        giveBackOwners();
        giveBackNone();
        giveBackTaken();
        promisesAndCrash();
        Checks.finish("BlocksEdgesTest");
    }

    /** Four owners, and owner 0 uses so many blocks that this many are free. */
    private static Checks.Scene leftFree(int free) {
        return x -> {
            Scenes.owners(4).play(x);
            for (int file = 0; file < 4; file++) {
                x.createFile(0);
            }
            Scenes.fill(x, 0, 64 - free);
        };
    }

    // "a block without users is free"
    private static void free() {
        for (int free : new int[] {64, 63, 1, 0}) {
            InodeCouncil x = Checks.made(leftFree(free));
            Checks.due("P15 of " + free, x.free(), free);
            Checks.due("P41 with " + free + " free", x.isConsistent(), true);
        }
        InodeCouncil x = Checks.made(leftFree(0));
        x.punch(3, 15);
        Checks.due("P15 one punched", x.free(), 1);
        x.takeSnapshot(0);
        x.punch(0, 0);
        Checks.due("P15 one in a snapshot alone", x.free(), 1);
        x.promise(3, 1);
        Checks.due("P15 promised blocks are free", x.free(), 1);
        x.thin(0);
        Checks.due("P15 one dropped", x.free(), 2);
    }

    // "the block, 0 to 63"
    private static void blockNumbers() {
        Checks.bounds("P16 block", Thrown.INDEX, 0, 63, leftFree(64), (x,
                block) -> x.usersOf(block),
                block -> 0);
        Checks.bounds("P17 block", Thrown.INDEX, 0, 63, leftFree(64),
                (x, block) -> x.usersByWalk(block), block -> 0);
        Checks.bounds("P16 used block", Thrown.INDEX, 0, 63, leftFree(0),
                (x, block) -> x.usersOf(block), block -> 1);
        Checks.bounds("P17 used block", Thrown.INDEX, 0, 63, leftFree(0),
                (x, block) -> x.usersByWalk(block), block -> 1);
        Checks.bounds("P16 of a new object, block", Thrown.INDEX, 0, 63, Scenes.NEW,
                (x, block) -> x.usersOf(block), block -> 0);
        Checks.bounds("P17 of a new object, block", Thrown.INDEX, 0, 63, Scenes.NEW,
                (x, block) -> x.usersByWalk(block), block -> 0);
    }

    private static void users(String what, InodeCouncil x, int block, int users) {
        Checks.due("P16 " + what, x.usersOf(block), users);
        Checks.due("P17 " + what, x.usersByWalk(block), users);
    }

    // "the places of files that exist"
    private static void usersOfFiles() {
        InodeCouncil x = Checks.made(Scenes.files(40));
        users("hole", x, 0, 0);
        x.write(39, 15, 1);
        users("last place of the last file", x, 0, 1);
        x.write(0, 0, 1);
        users("first place of the first file", x, 1, 1);
        x.openHold(39, 2);
        x.unlink(39);
        x.pass(1);
        users("held", x, 0, 1);
        x.pass(1);
        users("gone", x, 0, 0);
        x.punch(0, 0);
        users("punched", x, 1, 0);
    }

    // "and the places in snapshots that are kept"
    private static void usersOfSnapshots() {
        for (int kept = 0; kept <= 8; kept++) {
            users("with " + kept + " snapshots", Checks.made(Scenes.snapshots(kept)), 15, kept + 1);
        }
        InodeCouncil x = Checks.made(Scenes.snapshots(8));
        x.unlink(0);
        users("in snapshots alone", x, 15, 8);
        x.thin(8);
        users("none dropped", x, 15, 8);
        x.thin(1);
        users("in one snapshot", x, 15, 1);
        users("in one snapshot, block 0", x, 0, 1);
        x.thin(0);
        users("all dropped", x, 15, 0);
        InodeCouncil restored = Checks.made(Scenes.snapshots(8));
        restored.write(0, 0, 9);
        users("written anew", restored, 0, 8);
        users("the new one", restored, 16, 1);
        restored.restore(7, 0);
        users("restored", restored, 0, 9);
        users("what it had before", restored, 16, 0);
    }

    // "if there is no such owner"
    private static void promiseOwners() {
        for (int owners : SOME_OWNERS) {
            Checks.bounds("P18 of " + owners + " owners, owner", Thrown.INDEX, 0, owners - 1,
                    Scenes.owners(owners), (x, owner) -> x.promise(owner, 3), owner -> 3);
            Checks.bounds("P19 of " + owners + " owners, owner", Thrown.INDEX, 0, owners - 1,
                    Scenes.owners(owners), (x, owner) -> x.promisedTo(owner), owner -> 0);
        }
    }

    // "the number of blocks, 1 to 64"
    private static void promiseNumbers() {
        Checks.bounds("P18 blocks", Thrown.ARGUMENT, 1, 64, leftFree(64),
                (x, blocks) -> x.promise(3, blocks), blocks -> blocks);
        Checks.Scene noQuota = x -> x.addOwner(0);
        Checks.bounds("P18 blocks, whatever the quota", Thrown.ARGUMENT, 1, 64, noQuota,
                (x, blocks) -> x.promise(0, blocks), blocks -> blocks);
    }

    // "if so many more are not free"
    private static void promiseFree() {
        for (int free : new int[] {1, 2, 62, 63}) {
            Checks.due("P18 all " + free + " free", Checks.made(leftFree(free)).promise(2, free),
                    free);
            Checks.due("P18 one of " + free + " free", Checks.made(leftFree(free)).promise(2, 1),
                    1);
            Checks.refuses("P18 more than " + free + " free", Thrown.UNSUPPORTED, leftFree(free),
                    x -> x.promise(2, free + 1));
            Checks.refuses("P18 64 of " + free + " free", Thrown.UNSUPPORTED, leftFree(free),
                    x -> x.promise(2, 64));
        }
        Checks.due("P18 all 64", Checks.made(leftFree(64)).promise(2, 64), 64);
        Checks.refuses("P18 none free", Thrown.UNSUPPORTED, leftFree(0), x -> x.promise(2, 1));
    }

    // "less what is promised"
    private static void promiseLessPromised() {
        Checks.Scene three = Scenes.then(leftFree(10), x -> {
            x.promise(0, 4);
            x.promise(1, 3);
        });
        Checks.due("P18 all but one that are left", Checks.made(three).promise(2, 2), 2);
        Checks.due("P18 all that are left", Checks.made(three).promise(2, 3), 3);
        Checks.refuses("P18 one more", Thrown.UNSUPPORTED, three, x -> x.promise(2, 4));
        Checks.due("P18 all that are left, more", Checks.made(three).promise(0, 3), 7);
        Checks.refuses("P18 one more than more", Thrown.UNSUPPORTED, three, x -> x.promise(0, 4));
        Checks.Scene all = Scenes.then(three, x -> x.promise(3, 3));
        for (int number = 0; number < 4; number++) {
            int owner = number;
            Checks.refuses("P18 none left for " + owner, Thrown.UNSUPPORTED, all,
                    x -> x.promise(owner, 1));
        }
        Checks.due("P41 all are promised", Checks.made(all).isConsistent(), true);
        InodeCouncil x = Checks.made(Scenes.then(all, y -> y.punch(0, 0)));
        Checks.due("P18 one is free again", x.promise(2, 1), 1);
        Checks.due("P18 just one", Checks.answer(x, y -> y.promise(2, 1)),
                Thrown.UNSUPPORTED.getName());
    }

    private static void promisedTo() {
        InodeCouncil x = Checks.made(leftFree(64));
        Checks.due("P19 none", x.promisedTo(3), 0);
        x.promise(3, 1);
        Checks.due("P19 one", x.promisedTo(3), 1);
        x.promise(3, 63);
        Checks.due("P19 all", x.promisedTo(3), 64);
        for (int owner = 0; owner < 3; owner++) {
            Checks.due("P19 none to " + owner, x.promisedTo(owner), 0);
        }
        x.createFile(3);
        for (int place = 0; place < 16; place++) {
            x.write(4, place, 1);
            Checks.due("P19 after a write", x.promisedTo(3), 63 - place);
        }
        x.unlink(4);
        Checks.due("P19 blocks that are freed are not promised", x.promisedTo(3), 48);
    }

    private static void giveBackOwners() {
        for (int owners : SOME_OWNERS) {
            Checks.bounds("P20 of " + owners + " owners, owner", Thrown.INDEX, 0, owners - 1,
                    Scenes.then(Scenes.owners(owners), x -> promiseToAll(x, owners)),
                    (x, owner) -> x.giveBack(owner), owner -> owner + 1);
        }
    }

    private static void promiseToAll(InodeCouncil x, int owners) {
        for (int owner = 0; owner < owners; owner++) {
            x.promise(owner, owner + 1);
        }
    }

    // "if none were promised"
    private static void giveBackNone() {
        Checks.refuses("P20 none", Thrown.STATE, leftFree(64), x -> x.giveBack(0));
        Checks.refuses("P20 others'", Thrown.STATE, Scenes.then(leftFree(64), x -> x.promise(1,
                64)),
                x -> x.giveBack(0));
        for (int blocks : new int[] {1, 2, 64}) {
            Checks.Scene promised = Scenes.then(leftFree(64), x -> x.promise(0, blocks));
            InodeCouncil x = Checks.made(promised);
            Checks.due("P20 of " + blocks, x.giveBack(0), blocks);
            Checks.due("P20 of " + blocks + ", none left", x.promisedTo(0), 0);
            Checks.due("P20 of " + blocks + ", for everybody", x.promise(1, 64), 64);
            Checks.refuses("P20 twice", Thrown.STATE, Scenes.then(promised, y -> y.giveBack(0)),
                    y -> y.giveBack(0));
        }
    }

    /** What is promised may have been taken by writes. */
    private static void giveBackTaken() {
        Checks.Scene oneLeft = Scenes.then(leftFree(64), x -> {
            x.promise(0, 2);
            x.write(0, 0, 1);
        });
        Checks.due("P20 the last one", Checks.made(oneLeft).giveBack(0), 1);
        Checks.refuses("P20 all taken", Thrown.STATE,
                Scenes.then(oneLeft, x -> x.write(0, 1, 1)), x -> x.giveBack(0));
    }

    private static void promisesAndCrash() {
        InodeCouncil x = Checks.made(Scenes.then(leftFree(1), y -> {
            y.promise(0, 1);
            y.begin();
            y.write(3, 15, 1);
        }));
        Checks.due("P19 taken", x.promisedTo(0) + " " + x.free(), "0 0");
        x.crash();
        Checks.due("P19 taken back", x.promisedTo(0) + " " + x.free(), "1 1");
        Checks.due("P18 still promised", Checks.answer(x, y -> y.promise(1, 1)),
                Thrown.UNSUPPORTED.getName());
        x.begin();
        x.giveBack(0);
        x.promise(1, 1);
        x.crash();
        Checks.due("P20 taken back", x.giveBack(0), 1);
    }
}
