/** Promises 15 to 20: blocks and promises. */
public final class BlocksTest {
    private static final Class<IndexOutOfBoundsException> INDEX = IndexOutOfBoundsException.class;
    private static final Class<IllegalArgumentException> ARGUMENT = IllegalArgumentException.class;
    private static final Class<IllegalStateException> STATE = IllegalStateException.class;
    private static final Class<UnsupportedOperationException> UNSUPPORTED =
            UnsupportedOperationException.class;

    public static void main(String[] args) {
        free();
        users();
        promises();
        promisesTaken();
        promisesRefused();
        giveBack();
        Checks.finish("BlocksTest");
    }

    /** Two owners, a file of each, block 0 with two users and block 1 with one. */
    private static void twoOwners(InodeCouncil x) {
        x.addOwner(64);
        x.addOwner(64);
        x.createFile(0);
        x.createFile(1);
        x.write(0, 0, 5);
        x.takeSnapshot(3);
        x.write(1, 0, 6);
    }

    private static void free() {
        InodeCouncil x = Checks.made(BlocksTest::twoOwners);
        Checks.due("P15 two used", x.free(), 62);
        x.promise(0, 10);
        Checks.due("P15 promised are free", x.free(), 62);
        x.unlink(0);
        Checks.due("P15 the snapshot uses", x.free(), 62);
        x.thin(0);
        Checks.due("P15 dropped", x.free(), 63);
        x.punch(1, 0);
        Checks.due("P15 punched", x.free(), 64);
        Checks.onlyTells("P15", BlocksTest::twoOwners, y -> y.free());
    }

    private static void users() {
        InodeCouncil x = Checks.made(BlocksTest::twoOwners);
        int[] want = {2, 1, 0};
        for (int block = 0; block < 3; block++) {
            Checks.due("P16 users of " + block, x.usersOf(block), want[block]);
            Checks.due("P17 users of " + block, x.usersByWalk(block), want[block]);
        }
        for (int rank = 0; rank < 7; rank++) {
            x.takeSnapshot(rank);
        }
        Checks.due("P16 nine", x.usersOf(0), 9);
        Checks.due("P17 nine", x.usersByWalk(0), 9);
        Checks.due("P16 eight", x.usersOf(1), 8);
        Checks.due("P17 eight", x.usersByWalk(1), 8);
        x.unlink(0);
        Checks.due("P16 gone", x.usersOf(0), 8);
        Checks.due("P17 gone", x.usersByWalk(0), 8);
        x.thin(3);
        Checks.due("P16 thinned", x.usersOf(1), 4);
        Checks.due("P17 thinned", x.usersByWalk(1), 4);
        x.takeSnapshot(0);
        Checks.due("P17 without the file that is gone", x.usersByWalk(0), 3);
        Checks.due("P16 last block", x.usersOf(63), 0);
        Checks.due("P17 last block", x.usersByWalk(63), 0);
        InodeCouncil held = Checks.made(BlocksTest::twoOwners);
        held.openHold(1, 1);
        held.unlink(1);
        Checks.due("P16 held", held.usersOf(1), 1);
        Checks.due("P17 held", held.usersByWalk(1), 1);
        Checks.Scene scene = BlocksTest::twoOwners;
        Checks.onlyTells("P16", scene, y -> y.usersOf(0));
        Checks.onlyTells("P17", scene, y -> y.usersByWalk(0));
        Checks.refuses("P16 64", INDEX, scene, y -> y.usersOf(64));
        Checks.refuses("P16 -1", INDEX, scene, y -> y.usersOf(-1));
        Checks.refuses("P17 64", INDEX, scene, y -> y.usersByWalk(64));
        Checks.refuses("P17 -1", INDEX, scene, y -> y.usersByWalk(-1));
    }

    private static void promises() {
        InodeCouncil x = Checks.made(BlocksTest::twoOwners);
        Checks.due("P18 first", x.promise(0, 1), 1);
        Checks.due("P18 more", x.promise(0, 40), 41);
        Checks.due("P18 all that are left", x.promise(1, 21), 21);
        Checks.due("P19 of 0", x.promisedTo(0), 41);
        Checks.due("P19 of 1", x.promisedTo(1), 21);
        Checks.due("P18 journal", x.journalSize(), 7);
        Checks.due("P18 kind", x.entryKind(6), 'p');
        Checks.due("P18 consistent", x.isConsistent(), true);
        InodeCouncil none = new InodeCouncil();
        none.addOwner(0);
        Checks.due("P18 all, whatever the quota", none.promise(0, 64), 64);
        Checks.onlyTells("P19", BlocksTest::twoOwners, y -> y.promisedTo(0));
        Checks.refuses("P19 2", INDEX, BlocksTest::twoOwners, y -> y.promisedTo(2));
        Checks.refuses("P19 -1", INDEX, BlocksTest::twoOwners, y -> y.promisedTo(-1));
    }

    private static void promisesTaken() {
        InodeCouncil x = Checks.made(BlocksTest::twoOwners);
        x.promise(0, 2);
        x.promise(1, 60);
        Checks.due("P19 in place", x.write(1, 0, 7), 1);
        Checks.due("P19 none taken", x.promisedTo(1), 60);
        Checks.due("P19 shared", x.write(0, 0, 7), 2);
        Checks.due("P19 one taken", x.promisedTo(0), 1);
        Checks.due("P19 hole", x.write(0, 1, 7), 3);
        Checks.due("P19 all taken", x.promisedTo(0), 0);
        x.punch(0, 1);
        Checks.due("P19 not given back by a hole", x.promisedTo(0), 0);
        Checks.due("P19 one for everybody", x.write(0, 2, 7), 3);
        Checks.due("P19 others keep theirs", x.promisedTo(1), 60);
    }

    private static void promisesRefused() {
        Checks.Scene scene = BlocksTest::twoOwners;
        Checks.refuses("P18 owner", INDEX, scene, y -> y.promise(2, 1));
        Checks.refuses("P18 owner -1", INDEX, scene, y -> y.promise(-1, 1));
        Checks.refuses("P18 owner first", INDEX, scene, y -> y.promise(2, 0));
        Checks.refuses("P18 none", ARGUMENT, scene, y -> y.promise(0, 0));
        Checks.refuses("P18 less than none", ARGUMENT, scene, y -> y.promise(0, -5));
        Checks.refuses("P18 65", ARGUMENT, scene, y -> y.promise(0, 65));
        Checks.refuses("P18 one too many", UNSUPPORTED, scene, y -> y.promise(0, 63));
        Checks.Scene promised = y -> {
            twoOwners(y);
            y.promise(0, 60);
        };
        Checks.refuses("P18 promised to others", UNSUPPORTED, promised, y -> y.promise(1, 3));
        Checks.refuses("P18 promised already", UNSUPPORTED, promised, y -> y.promise(0, 3));
        Checks.refuses("P18 number first", ARGUMENT, promised, y -> y.promise(1, 65));
        Checks.due("P18 the rest", Checks.made(promised).promise(1, 2), 2);
    }

    private static void giveBack() {
        InodeCouncil x = Checks.made(BlocksTest::twoOwners);
        x.promise(0, 30);
        x.promise(1, 32);
        Checks.due("P20 blocks", x.giveBack(0), 30);
        Checks.due("P20 none left", x.promisedTo(0), 0);
        Checks.due("P20 others keep theirs", x.promisedTo(1), 32);
        Checks.due("P20 journal", x.journalSize(), 7);
        Checks.due("P20 kind", x.entryKind(6), 'g');
        Checks.due("P20 free for everybody", x.promise(1, 30), 62);
        Checks.Scene scene = BlocksTest::twoOwners;
        Checks.refuses("P20 owner", INDEX, scene, y -> y.giveBack(2));
        Checks.refuses("P20 owner -1", INDEX, scene, y -> y.giveBack(-1));
        Checks.refuses("P20 none", STATE, scene, y -> y.giveBack(0));
        Checks.refuses("P20 twice", STATE, y -> {
            twoOwners(y);
            y.promise(0, 1);
            y.giveBack(0);
        }, y -> y.giveBack(0));
    }
}
