import java.util.NoSuchElementException;

/** Promises 21 to 26: snapshots. */
public final class SnapshotsTest {
    private static final Class<IndexOutOfBoundsException> INDEX = IndexOutOfBoundsException.class;
    private static final Class<IllegalArgumentException> ARGUMENT = IllegalArgumentException.class;
    private static final Class<IllegalStateException> STATE = IllegalStateException.class;
    private static final Class<NoSuchElementException> ELEMENT = NoSuchElementException.class;
    private static final Class<UnsupportedOperationException> UNSUPPORTED =
            UnsupportedOperationException.class;

    public static void main(String[] args) {
        takeSnapshot();
        takeSnapshotRefused();
        isKept();
        readFrom();
        readFromRefused();
        thin();
        nextToDrop();
        restore();
        restoreOthers();
        restoreRefused();
        restoreQuota();
        Checks.finish("SnapshotsTest");
    }

    /** Files 0 and 1 in snapshot 0, file 2 made later, file 0 changed later. */
    private static void onSnapshot(InodeCouncil x) {
        x.addOwner(4);
        x.createFile(0);
        x.createFile(0);
        x.write(0, 1, 10);
        x.write(0, 2, 20);
        x.takeSnapshot(4);
        x.createFile(0);
        x.write(0, 2, 21);
        x.write(0, 15, 30);
    }

    private static void takeSnapshot() {
        InodeCouncil x = new InodeCouncil();
        Checks.due("P21 without files", x.takeSnapshot(0), 0);
        Checks.due("P21 rank 9", x.takeSnapshot(9), 1);
        Checks.due("P21 journal", x.journalSize(), 0);
        for (int number = 2; number < 30; number++) {
            x.thin(7);
            Checks.due("P21 number", x.takeSnapshot(number % 10), number);
        }
        x.thin(0);
        Checks.due("P21 kept", x.isKept(29), false);
        InodeCouncil held = new InodeCouncil();
        held.addOwner(1);
        held.createFile(0);
        held.write(0, 0, 1);
        held.openHold(0, 1);
        held.unlink(0);
        held.takeSnapshot(0);
        held.release(0);
        Checks.due("P21 a held file", held.readFrom(0, 0, 0), 1);
        Checks.due("P21 free", held.free(), 63);
    }

    private static void takeSnapshotRefused() {
        Checks.Scene eight = y -> {
            onSnapshot(y);
            for (int rank = 0; rank < 7; rank++) {
                y.takeSnapshot(rank);
            }
        };
        Checks.Scene thirty = y -> {
            onSnapshot(y);
            for (int number = 1; number < 30; number++) {
                y.takeSnapshot(5);
                y.thin(1);
            }
        };
        Checks.Scene begun = y -> {
            onSnapshot(y);
            y.begin();
        };
        Checks.refuses("P21 rank 10", ARGUMENT, SnapshotsTest::onSnapshot, y -> y.takeSnapshot(10));
        Checks.refuses("P21 rank -1", ARGUMENT, SnapshotsTest::onSnapshot, y -> y.takeSnapshot(-1));
        Checks.refuses("P21 begun", STATE, begun, y -> y.takeSnapshot(0));
        Checks.refuses("P21 rank first, begun", ARGUMENT, begun, y -> y.takeSnapshot(10));
        Checks.refuses("P21 ninth", STATE, eight, y -> y.takeSnapshot(0));
        Checks.refuses("P21 rank first, ninth", ARGUMENT, eight, y -> y.takeSnapshot(10));
        Checks.refuses("P21 31st", STATE, thirty, y -> y.takeSnapshot(0));
        InodeCouncil x = Checks.made(eight);
        x.thin(7);
        Checks.due("P21 ninth after thin", x.takeSnapshot(0), 8);
    }

    private static void isKept() {
        InodeCouncil x = Checks.made(SnapshotsTest::onSnapshot);
        Checks.due("P22 kept", x.isKept(0), true);
        x.takeSnapshot(5);
        x.thin(1);
        Checks.due("P22 dropped", x.isKept(0), false);
        Checks.due("P22 other", x.isKept(1), true);
        Checks.onlyTells("P22", SnapshotsTest::onSnapshot, y -> y.isKept(0));
        Checks.refuses("P22 1", INDEX, SnapshotsTest::onSnapshot, y -> y.isKept(1));
        Checks.refuses("P22 -1", INDEX, SnapshotsTest::onSnapshot, y -> y.isKept(-1));
        Checks.refuses("P22 30", INDEX, SnapshotsTest::onSnapshot, y -> y.isKept(30));
    }

    private static void readFrom() {
        InodeCouncil x = Checks.made(SnapshotsTest::onSnapshot);
        Checks.due("P23 unchanged", x.readFrom(0, 0, 1), 10);
        Checks.due("P23 as before", x.readFrom(0, 0, 2), 20);
        x.punch(0, 1);
        Checks.due("P23 punched", x.readFrom(0, 0, 1), 10);
        x.unlink(0);
        Checks.due("P23 gone", x.readFrom(0, 0, 1), 10);
        x.write(1, 15, 99);
        x.takeSnapshot(0);
        Checks.due("P23 the next", x.readFrom(1, 1, 15), 99);
        Checks.onlyTells("P23", SnapshotsTest::onSnapshot, y -> y.readFrom(0, 0, 1));
        // A row that a dropped snapshot left must not shine through.
        x.thin(0);
        x.takeSnapshot(0);
        Checks.due("P23 file gone before", Checks.answer(x, y -> y.readFrom(2, 0, 1)),
                ELEMENT.getName());
        Checks.due("P23 other file", x.readFrom(2, 1, 15), 99);
    }

    private static void readFromRefused() {
        Checks.Scene scene = SnapshotsTest::onSnapshot;
        Checks.Scene dropped = y -> {
            onSnapshot(y);
            y.thin(0);
        };
        Checks.refuses("P23 snapshot", INDEX, scene, y -> y.readFrom(1, 0, 1));
        Checks.refuses("P23 snapshot -1", INDEX, scene, y -> y.readFrom(-1, 0, 1));
        Checks.refuses("P23 file", INDEX, scene, y -> y.readFrom(0, 3, 1));
        Checks.refuses("P23 file -1", INDEX, scene, y -> y.readFrom(0, -1, 1));
        Checks.refuses("P23 place", INDEX, scene, y -> y.readFrom(0, 0, 16));
        Checks.refuses("P23 place -1", INDEX, scene, y -> y.readFrom(0, 0, -1));
        Checks.refuses("P23 hole", ELEMENT, scene, y -> y.readFrom(0, 0, 15));
        Checks.refuses("P23 file made later", ELEMENT, scene, y -> y.readFrom(0, 2, 1));
        Checks.refuses("P23 dropped", ELEMENT, dropped, y -> y.readFrom(0, 0, 1));
        Checks.refuses("P23 dropped, no file", INDEX, dropped, y -> y.readFrom(0, 3, 1));
        Checks.refuses("P23 dropped, no place", INDEX, dropped, y -> y.readFrom(0, 0, 16));
    }

    private static void ranked(InodeCouncil x) {
        int[] ranks = {5, 3, 9, 3, 0, 5};
        for (int rank : ranks) {
            x.takeSnapshot(rank);
        }
    }

    private static void thin() {
        InodeCouncil x = Checks.made(SnapshotsTest::ranked);
        Checks.due("P24 enough", x.thin(8), 0);
        Checks.due("P24 just enough", x.thin(6), 0);
        Checks.due("P24 two", x.thin(4), 2);
        Checks.due("P24 least rank", x.isKept(4), false);
        Checks.due("P24 oldest", x.isKept(1), false);
        Checks.due("P24 younger", x.isKept(3), true);
        Checks.due("P24 next two", x.thin(2), 2);
        Checks.due("P24 younger dropped", x.isKept(3), false);
        Checks.due("P24 oldest of rank 5", x.isKept(0), false);
        Checks.due("P24 youngest of rank 5", x.isKept(5), true);
        Checks.due("P24 all", x.thin(0), 2);
        Checks.due("P24 none", x.thin(0), 0);
        Checks.due("P24 journal", x.journalSize(), 0);
        InodeCouncil used = Checks.made(SnapshotsTest::onSnapshot);
        used.thin(0);
        Checks.due("P24 block freed", used.usersOf(1), 0);
        Checks.due("P24 block kept", used.usersOf(0), 1);
        Checks.Scene scene = SnapshotsTest::ranked;
        Checks.Scene begun = y -> {
            ranked(y);
            y.begin();
        };
        Checks.refuses("P24 9", ARGUMENT, scene, y -> y.thin(9));
        Checks.refuses("P24 -1", ARGUMENT, scene, y -> y.thin(-1));
        Checks.refuses("P24 begun", STATE, begun, y -> y.thin(0));
        Checks.refuses("P24 begun, none to drop", STATE, begun, y -> y.thin(8));
        Checks.refuses("P24 number first", ARGUMENT, begun, y -> y.thin(9));
    }

    private static void nextToDrop() {
        InodeCouncil x = Checks.made(SnapshotsTest::ranked);
        int[] order = {4, 1, 3, 0, 5, 2};
        for (int left = 5; left >= 0; left--) {
            Checks.due("P25 next", x.nextToDrop(), order[5 - left]);
            x.thin(left);
        }
        Checks.onlyTells("P25", SnapshotsTest::ranked, y -> y.nextToDrop());
        Checks.refuses("P25 never any", ELEMENT, y -> { }, y -> y.nextToDrop());
        Checks.refuses("P25 none left", ELEMENT, y -> {
            ranked(y);
            y.thin(0);
        }, y -> y.nextToDrop());
    }

    private static void restore() {
        InodeCouncil x = Checks.made(SnapshotsTest::onSnapshot);
        x.punch(0, 1);
        Checks.due("P26 only before, other, only afterwards", x.restore(0, 0), 3);
        Checks.due("P26 journal", x.journalSize(), 8);
        Checks.due("P26 block", x.blockAt(0, 1), 0);
        Checks.due("P26 value", x.read(0, 2), 20);
        Checks.due("P26 places", x.blocksOf(0), 2);
        Checks.due("P26 users", x.usersOf(1), 2);
        Checks.due("P26 old block free", x.usersOf(2), 0);
        Checks.due("P26 free", x.free(), 62);
        Checks.due("P26 consistent", x.isConsistent(), true);
        Checks.due("P26 again", x.restore(0, 0), 0);
        Checks.due("P26 shared now", x.write(0, 1, 11), 2);
        Checks.due("P26 one place", x.restore(0, 0), 1);
    }

    private static void restoreOthers() {
        InodeCouncil x = Checks.made(SnapshotsTest::onSnapshot);
        x.write(1, 5, 50);
        Checks.due("P26 holes", x.restore(0, 1), 1);
        Checks.due("P26 empty", x.blocksOf(1), 0);
        Checks.due("P26 other file", x.read(0, 2), 21);
        Checks.due("P26 links", x.linksOf(1), 1);
        InodeCouncil promised = new InodeCouncil();
        promised.addOwner(5);
        promised.createFile(0);
        promised.write(0, 0, 1);
        promised.takeSnapshot(1);
        promised.punch(0, 0);
        promised.promise(0, 3);
        Checks.due("P26 takes no new block", promised.restore(0, 0), 1);
        Checks.due("P26 promises stay", promised.promisedTo(0), 3);
    }

    private static void restoreRefused() {
        Checks.Scene scene = SnapshotsTest::onSnapshot;
        Checks.Scene dropped = y -> {
            onSnapshot(y);
            y.thin(0);
            y.unlink(0);
            y.begin();
        };
        Checks.Scene begun = y -> {
            onSnapshot(y);
            y.begin();
        };
        Checks.Scene gone = y -> {
            onSnapshot(y);
            y.unlink(0);
        };
        Checks.Scene held = y -> {
            onSnapshot(y);
            y.openHold(0, 1);
            y.unlink(0);
        };
        Checks.refuses("P26 snapshot", INDEX, scene, y -> y.restore(1, 0));
        Checks.refuses("P26 snapshot -1", INDEX, scene, y -> y.restore(-1, 0));
        Checks.refuses("P26 file", INDEX, scene, y -> y.restore(0, 3));
        Checks.refuses("P26 file -1", INDEX, scene, y -> y.restore(0, -1));
        Checks.refuses("P26 dropped", ELEMENT, dropped, y -> y.restore(0, 0));
        Checks.refuses("P26 dropped, no file", INDEX, dropped, y -> y.restore(0, 3));
        Checks.refuses("P26 not in it", ELEMENT, scene, y -> y.restore(0, 2));
        Checks.refuses("P26 not in it, begun", ELEMENT, begun, y -> y.restore(0, 2));
        Checks.refuses("P26 begun", STATE, begun, y -> y.restore(0, 0));
        Checks.refuses("P26 gone", STATE, gone, y -> y.restore(0, 0));
        Checks.refuses("P26 held", STATE, held, y -> y.restore(0, 0));
    }

    private static void restoreQuota() {
        Checks.Scene full = y -> {
            onSnapshot(y);
            y.punch(0, 1);
            y.punch(0, 2);
            y.punch(0, 15);
            y.write(1, 0, 1);
            y.write(1, 1, 1);
            y.write(1, 2, 1);
        };
        Checks.refuses("P26 quota", UNSUPPORTED, full, y -> y.restore(0, 0));
        InodeCouncil x = Checks.made(full);
        x.punch(1, 2);
        Checks.due("P26 at the quota", x.restore(0, 0), 2);
        Checks.due("P26 counts", x.usedBy(0), 4);
        Checks.refuses("P26 links before quota", STATE, y -> {
            full.play(y);
            y.unlink(0);
        }, y -> y.restore(0, 0));
    }
}
