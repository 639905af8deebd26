import java.util.NoSuchElementException;

/** Promises 27 to 33: holds and days. */
public final class HoldsTest {
    private static final Class<IndexOutOfBoundsException> INDEX = IndexOutOfBoundsException.class;
    private static final Class<IllegalArgumentException> ARGUMENT = IllegalArgumentException.class;
    private static final Class<IllegalStateException> STATE = IllegalStateException.class;
    private static final Class<NoSuchElementException> ELEMENT = NoSuchElementException.class;

    public static void main(String[] args) {
        openHold();
        openHoldRefused();
        release();
        releaseRefused();
        isOpen();
        holdsOn();
        nextEnd();
        pass();
        passRefused();
        day();
        Checks.finish("HoldsTest");
    }

    /** File 0 without links under holds 0 to day 10 and 1 to day 3, file 1 with hold 2 to day 3. */
    private static void holds(InodeCouncil x) {
        x.addOwner(9);
        x.createFile(0);
        x.createFile(0);
        x.write(0, 0, 5);
        x.write(1, 0, 6);
        x.openHold(0, 10);
        x.openHold(0, 3);
        x.openHold(1, 3);
        x.unlink(0);
    }

    private static void begun(InodeCouncil x) {
        holds(x);
        x.begin();
    }

    private static void openHold() {
        InodeCouncil x = new InodeCouncil();
        x.addOwner(0);
        x.createFile(0);
        for (int hold = 0; hold < 30; hold++) {
            Checks.due("P27 number", x.openHold(0, hold == 0 ? 99 : hold), hold);
        }
        Checks.due("P27 journal", x.journalSize(), 1);
        Checks.due("P27 on the file", x.holdsOn(0), 30);
        InodeCouncil held = Checks.made(HoldsTest::holds);
        Checks.due("P27 on a file without links", held.openHold(0, 1), 3);
        InodeCouncil later = Checks.made(HoldsTest::holds);
        later.pass(2);
        later.openHold(1, 99);
        later.pass(98);
        Checks.due("P27 from its day on", later.isOpen(3), true);
        later.pass(1);
        Checks.due("P27 to its end", later.isOpen(3), false);
    }

    private static void openHoldRefused() {
        Checks.Scene gone = y -> {
            holds(y);
            y.release(0);
            y.release(1);
        };
        Checks.Scene thirty = y -> {
            y.addOwner(0);
            y.createFile(0);
            for (int hold = 0; hold < 30; hold++) {
                y.openHold(0, 1);
            }
            y.pass(1);
        };
        Checks.refuses("P27 file", INDEX, HoldsTest::holds, y -> y.openHold(2, 1));
        Checks.refuses("P27 file -1", INDEX, HoldsTest::holds, y -> y.openHold(-1, 1));
        Checks.refuses("P27 file before days", INDEX, HoldsTest::holds, y -> y.openHold(2, 0));
        Checks.refuses("P27 0 days", ARGUMENT, HoldsTest::holds, y -> y.openHold(0, 0));
        Checks.refuses("P27 100 days", ARGUMENT, HoldsTest::holds, y -> y.openHold(0, 100));
        Checks.refuses("P27 begun", STATE, HoldsTest::begun, y -> y.openHold(0, 1));
        Checks.refuses("P27 days first", ARGUMENT, HoldsTest::begun, y -> y.openHold(0, 0));
        Checks.refuses("P27 gone", STATE, gone, y -> y.openHold(0, 1));
        Checks.refuses("P27 days first, gone", ARGUMENT, gone, y -> y.openHold(0, 100));
        Checks.refuses("P27 31st", STATE, thirty, y -> y.openHold(0, 1));
    }

    private static void release() {
        InodeCouncil x = Checks.made(HoldsTest::holds);
        Checks.due("P28 one of two", x.release(0), 0);
        Checks.due("P28 still there", x.doesExist(0), true);
        Checks.due("P28 with links", x.release(2), 0);
        Checks.due("P28 last", x.release(1), 1);
        Checks.due("P28 gone", x.doesExist(0), false);
        Checks.due("P28 block freed", x.usersOf(0), 0);
        Checks.due("P28 other file", x.doesExist(1), true);
        Checks.due("P28 journal", x.journalSize(), 5);
    }

    private static void releaseRefused() {
        Checks.Scene released = y -> {
            holds(y);
            y.release(0);
            y.pass(3);
        };
        Checks.refuses("P28 3", INDEX, HoldsTest::holds, y -> y.release(3));
        Checks.refuses("P28 -1", INDEX, HoldsTest::holds, y -> y.release(-1));
        Checks.refuses("P28 begun", STATE, HoldsTest::begun, y -> y.release(0));
        Checks.refuses("P28 begun, number", INDEX, HoldsTest::begun, y -> y.release(3));
        Checks.refuses("P28 released", STATE, released, y -> y.release(0));
        Checks.refuses("P28 ended", STATE, released, y -> y.release(1));
    }

    private static void isOpen() {
        InodeCouncil x = Checks.made(HoldsTest::holds);
        Checks.due("P29 open", x.isOpen(0), true);
        x.release(0);
        Checks.due("P29 released", x.isOpen(0), false);
        x.pass(2);
        Checks.due("P29 the day before", x.isOpen(1), true);
        x.pass(1);
        Checks.due("P29 ended", x.isOpen(1), false);
        Checks.onlyTells("P29", HoldsTest::holds, y -> y.isOpen(0));
        Checks.refuses("P29 3", INDEX, HoldsTest::holds, y -> y.isOpen(3));
        Checks.refuses("P29 -1", INDEX, HoldsTest::holds, y -> y.isOpen(-1));
        Checks.refuses("P29 30", INDEX, HoldsTest::holds, y -> y.isOpen(30));
    }

    private static void holdsOn() {
        InodeCouncil x = Checks.made(HoldsTest::holds);
        Checks.due("P30 two", x.holdsOn(0), 2);
        Checks.due("P30 one", x.holdsOn(1), 1);
        x.release(0);
        Checks.due("P30 released", x.holdsOn(0), 1);
        x.pass(3);
        Checks.due("P30 ended", x.holdsOn(0), 0);
        Checks.due("P30 ended with links", x.holdsOn(1), 0);
        Checks.onlyTells("P30", HoldsTest::holds, y -> y.holdsOn(0));
        Checks.refuses("P30 2", INDEX, HoldsTest::holds, y -> y.holdsOn(2));
        Checks.refuses("P30 -1", INDEX, HoldsTest::holds, y -> y.holdsOn(-1));
    }

    private static void nextEnd() {
        InodeCouncil x = Checks.made(HoldsTest::holds);
        Checks.due("P31 lowest of two", x.nextEnd(), 1);
        x.openHold(1, 2);
        Checks.due("P31 a later one", x.nextEnd(), 3);
        x.pass(2);
        Checks.due("P31 after an end", x.nextEnd(), 1);
        x.openHold(1, 1);
        Checks.due("P31 same end", x.nextEnd(), 1);
        x.release(1);
        Checks.due("P31 after a release", x.nextEnd(), 2);
        x.pass(1);
        Checks.due("P31 the last", x.nextEnd(), 0);
        Checks.onlyTells("P31", HoldsTest::holds, y -> y.nextEnd());
        Checks.refuses("P31 never any", ELEMENT, y -> { }, y -> y.nextEnd());
        Checks.refuses("P31 none left", ELEMENT, y -> {
            holds(y);
            y.pass(99);
        }, y -> y.nextEnd());
    }

    private static void pass() {
        InodeCouncil x = Checks.made(HoldsTest::holds);
        Checks.due("P32 none ends", x.pass(2), 0);
        Checks.due("P32 two end", x.pass(1), 2);
        Checks.due("P32 still held", x.doesExist(0), true);
        Checks.due("P32 with links", x.doesExist(1), true);
        Checks.due("P32 past the end", x.pass(99), 1);
        Checks.due("P32 gone", x.doesExist(0), false);
        Checks.due("P32 block freed", x.usersOf(0), 0);
        Checks.due("P32 none left", x.pass(1), 0);
        Checks.due("P32 journal", x.journalSize(), 5);
        InodeCouncil released = Checks.made(HoldsTest::holds);
        released.release(1);
        Checks.due("P32 without the released", released.pass(3), 1);
    }

    private static void passed(InodeCouncil x) {
        for (int times = 0; times < 101; times++) {
            x.pass(98);
        }
        x.pass(99);
    }

    private static void passRefused() {
        Checks.refuses("P32 0", ARGUMENT, HoldsTest::holds, y -> y.pass(0));
        Checks.refuses("P32 -1", ARGUMENT, HoldsTest::holds, y -> y.pass(-1));
        Checks.refuses("P32 100", ARGUMENT, HoldsTest::holds, y -> y.pass(100));
        Checks.refuses("P32 begun", STATE, HoldsTest::begun, y -> y.pass(1));
        Checks.refuses("P32 days first", ARGUMENT, HoldsTest::begun, y -> y.pass(0));
        Checks.refuses("P32 day 10000", STATE, HoldsTest::passed, y -> y.pass(3));
        Checks.refuses("P32 days first, late", ARGUMENT, HoldsTest::passed, y -> y.pass(100));
        InodeCouncil x = Checks.made(HoldsTest::passed);
        Checks.due("P32 to day 9999", x.pass(2), 0);
        Checks.due("P33 day 9999", x.day(), 9999);
    }

    private static void day() {
        InodeCouncil x = new InodeCouncil();
        Checks.due("P33 first", x.day(), 0);
        x.pass(1);
        x.pass(99);
        Checks.due("P33 after two", x.day(), 100);
        Checks.onlyTells("P33", HoldsTest::holds, y -> y.day());
    }
}
