/** "If several exceptions apply, the one that is documented first is thrown." */
public final class OrderTest {
    private static final int[] NO_OWNER = {-1, 4};
    private static final int[] NO_FILE = {-1, 2, 40};
    private static final int[] NO_PLACE = {-1, 16};

    public static void main(String[] args) {
        addOwner();
        createFile();
        write();
        writePlaces();
        punchAndRead();
        promise();
        takeSnapshot();
        readFrom();
        thin();
        restoreIndex();
        restoreElement();
        restoreState();
        openHold();
        release();
        pass();
        Checks.finish("OrderTest");
    }

    /** Owner 0 with a quota of 1 that it uses up; file 0 has it at place 0, and file 1 none. */
    private static void atQuota(InodeCouncil x) {
        x.addOwner(1);
        x.createFile(0);
        x.createFile(0);
        x.write(0, 0, 1);
    }

    private static void gone(InodeCouncil x) {
        atQuota(x);
        x.unlink(1);
    }

    private static void held(InodeCouncil x) {
        atQuota(x);
        x.openHold(1, 5);
        x.unlink(1);
    }

    private static void addOwner() {
        for (int number : new int[] {-1, 65}) {
            int quota = number;
            Checks.refuses("P2 quota, begun", Thrown.ARGUMENT, Scenes.begun(Scenes.NEW),
                    x -> x.addOwner(quota));
            Checks.refuses("P2 quota, 4 owners", Thrown.ARGUMENT, Scenes.owners(4),
                    x -> x.addOwner(quota));
            Checks.refuses("P2 quota, begun, 4 owners", Thrown.ARGUMENT,
                    Scenes.begun(Scenes.owners(4)), x -> x.addOwner(quota));
        }
    }

    private static void createFile() {
        for (int number : new int[] {-1, 1, 4}) {
            int owner = number;
            Checks.refuses("P3 owner, 40 files", Thrown.INDEX, Scenes.files(40),
                    x -> x.createFile(owner));
        }
    }

    private static void write() {
        for (int number : NO_FILE) {
            int file = number;
            Checks.refuses("P9 file, place", Thrown.INDEX, OrderTest::atQuota,
                    x -> x.write(file, 16, 1));
            Checks.refuses("P9 file, value", Thrown.INDEX, OrderTest::atQuota,
                    x -> x.write(file, 0, 1000));
            Checks.refuses("P9 file, place, value", Thrown.INDEX, OrderTest::atQuota,
                    x -> x.write(file, -1, -1));
        }
        for (int number : new int[] {-1, 1000}) {
            int value = number;
            Checks.refuses("P9 value, gone", Thrown.ARGUMENT, OrderTest::gone,
                    x -> x.write(1, 0, value));
            Checks.refuses("P9 value, held", Thrown.ARGUMENT, OrderTest::held,
                    x -> x.write(1, 0, value));
            Checks.refuses("P9 value, quota", Thrown.ARGUMENT, OrderTest::atQuota,
                    x -> x.write(1, 0, value));
        }
        Checks.refuses("P9 gone, quota", Thrown.STATE, OrderTest::gone, x -> x.write(1, 0, 1));
        Checks.refuses("P9 held, quota", Thrown.STATE, OrderTest::held, x -> x.write(1, 0, 1));
        Checks.Scene promised = Scenes.then(OrderTest::gone, x -> {
            x.addOwner(0);
            x.promise(1, 63);
        });
        Checks.refuses("P9 gone, none free", Thrown.STATE, promised, x -> x.write(1, 0, 1));
    }

    private static void writePlaces() {
        for (int number : NO_PLACE) {
            int place = number;
            Checks.refuses("P9 place, value", Thrown.INDEX, OrderTest::atQuota,
                    x -> x.write(0, place, 1000));
            Checks.refuses("P9 place, gone", Thrown.INDEX, OrderTest::gone,
                    x -> x.write(1, place, 1));
            Checks.refuses("P9 place, held", Thrown.INDEX, OrderTest::held,
                    x -> x.write(1, place, 1));
            Checks.refuses("P9 place, quota", Thrown.INDEX, OrderTest::atQuota,
                    x -> x.write(1, place, 1));
            Checks.refuses("P9 place, value, gone", Thrown.INDEX, OrderTest::gone,
                    x -> x.write(1, place, -1));
        }
    }

    private static void punchAndRead() {
        for (int number : NO_PLACE) {
            int place = number;
            Checks.refuses("P10 place, gone", Thrown.INDEX, OrderTest::gone, x -> x.punch(1,
                    place));
            Checks.refuses("P10 place, held", Thrown.INDEX, OrderTest::held, x -> x.punch(1,
                    place));
            Checks.refuses("P11 place, gone", Thrown.INDEX, OrderTest::gone, x -> x.read(1, place));
            Checks.refuses("P12 place, gone", Thrown.INDEX, OrderTest::gone,
                    x -> x.blockAt(1, place));
        }
        for (int number : NO_FILE) {
            int file = number;
            Checks.refuses("P10 file, place", Thrown.INDEX, OrderTest::gone, x -> x.punch(file,
                    16));
            Checks.refuses("P11 file, place", Thrown.INDEX, OrderTest::gone, x -> x.read(file, 16));
            Checks.refuses("P12 file, place", Thrown.INDEX, OrderTest::gone,
                    x -> x.blockAt(file, 16));
        }
    }

    private static void promise() {
        Checks.Scene allPromised = Scenes.then(Scenes.owners(4), x -> x.promise(3, 64));
        for (int number : NO_OWNER) {
            int owner = number;
            Checks.refuses("P18 owner, blocks 0", Thrown.INDEX, Scenes.owners(4),
                    x -> x.promise(owner, 0));
            Checks.refuses("P18 owner, blocks 65", Thrown.INDEX, Scenes.owners(4),
                    x -> x.promise(owner, 65));
            Checks.refuses("P18 owner, none free", Thrown.INDEX, allPromised,
                    x -> x.promise(owner, 1));
            Checks.refuses("P18 owner, blocks, none free", Thrown.INDEX, allPromised,
                    x -> x.promise(owner, 65));
        }
        for (int number : new int[] {-1, 0, 65, Integer.MAX_VALUE}) {
            int blocks = number;
            Checks.refuses("P18 blocks, none free", Thrown.ARGUMENT, allPromised,
                    x -> x.promise(0, blocks));
        }
        Checks.refuses("P20 owner", Thrown.INDEX, allPromised, x -> x.giveBack(4));
    }

    private static void takeSnapshot() {
        for (int number : new int[] {-1, 10}) {
            int rank = number;
            Checks.refuses("P21 rank, begun", Thrown.ARGUMENT, Scenes.begun(Scenes.snapshots(1)),
                    x -> x.takeSnapshot(rank));
            Checks.refuses("P21 rank, 8 kept", Thrown.ARGUMENT, Scenes.snapshots(8),
                    x -> x.takeSnapshot(rank));
            Checks.refuses("P21 rank, 30", Thrown.ARGUMENT, Scenes.then(Scenes.snapshots(30),
                    x -> x.thin(0)), x -> x.takeSnapshot(rank));
            Checks.refuses("P21 rank, begun, 30, 8 kept", Thrown.ARGUMENT,
                    Scenes.begun(Scenes.snapshots(30)), x -> x.takeSnapshot(rank));
        }
    }

    /** Snapshot 0 is not kept, and snapshot 1 has neither file 0, which is gone, nor file 1. */
    private static void lacking(InodeCouncil x) {
        x.addOwner(64);
        x.createFile(0);
        x.takeSnapshot(0);
        x.unlink(0);
        x.takeSnapshot(1);
        x.thin(1);
        x.createFile(0);
    }

    private static void readFrom() {
        for (int number : new int[] {-1, 2, 30}) {
            int snapshot = number;
            Checks.refuses("P23 snapshot, hole", Thrown.INDEX, OrderTest::lacking,
                    x -> x.readFrom(snapshot, 0, 0));
            Checks.refuses("P23 snapshot, file", Thrown.INDEX, OrderTest::lacking,
                    x -> x.readFrom(snapshot, 2, 0));
        }
        for (int number : new int[] {0, 1}) {
            int snapshot = number;
            for (int none : NO_FILE) {
                int file = none;
                Checks.refuses("P23 file, not in " + snapshot, Thrown.INDEX, OrderTest::lacking,
                        x -> x.readFrom(snapshot, file, 0));
            }
            for (int none : NO_PLACE) {
                int place = none;
                Checks.refuses("P23 place, not in " + snapshot, Thrown.INDEX, OrderTest::lacking,
                        x -> x.readFrom(snapshot, 0, place));
                Checks.refuses("P23 place, later file, not in " + snapshot, Thrown.INDEX,
                        OrderTest::lacking, x -> x.readFrom(snapshot, 1, place));
            }
        }
    }

    private static void thin() {
        for (int number : new int[] {-1, 9}) {
            int count = number;
            Checks.refuses("P24 count, begun", Thrown.ARGUMENT, Scenes.begun(Scenes.snapshots(8)),
                    x -> x.thin(count));
        }
    }

    private static void restoreIndex() {
        Checks.Scene begun = Scenes.begun(OrderTest::lacking);
        for (int number : new int[] {-1, 2, 30}) {
            int snapshot = number;
            Checks.refuses("P26 snapshot, begun", Thrown.INDEX, begun, x -> x.restore(snapshot, 1));
            Checks.refuses("P26 snapshot, gone", Thrown.INDEX, OrderTest::lacking,
                    x -> x.restore(snapshot, 0));
            Checks.refuses("P26 snapshot, file", Thrown.INDEX, OrderTest::lacking,
                    x -> x.restore(snapshot, 2));
        }
        for (int number : NO_FILE) {
            int file = number;
            Checks.refuses("P26 file, not kept", Thrown.INDEX, OrderTest::lacking,
                    x -> x.restore(0, file));
            Checks.refuses("P26 file, not in it", Thrown.INDEX, OrderTest::lacking,
                    x -> x.restore(1, file));
            Checks.refuses("P26 file, begun", Thrown.INDEX, begun, x -> x.restore(1, file));
        }
    }

    private static void restoreElement() {
        Checks.Scene begun = Scenes.begun(OrderTest::lacking);
        for (int number : new int[] {0, 1}) {
            int snapshot = number;
            Checks.refuses("P26 not in " + snapshot + ", begun", Thrown.ELEMENT, begun,
                    x -> x.restore(snapshot, 1));
            Checks.refuses("P26 not in " + snapshot + ", gone", Thrown.ELEMENT, OrderTest::lacking,
                    x -> x.restore(snapshot, 0));
            Checks.refuses("P26 not in " + snapshot + ", gone, begun", Thrown.ELEMENT, begun,
                    x -> x.restore(snapshot, 0));
        }
    }

    private static void restoreState() {
        Checks.Scene beyondQuota = Scenes.then(OrderTest::atQuota, x -> {
            x.takeSnapshot(0);
            x.punch(0, 0);
            x.write(1, 0, 1);
        });
        Checks.refuses("P26 quota", Thrown.UNSUPPORTED, beyondQuota, x -> x.restore(0, 0));
        Checks.refuses("P26 begun, quota", Thrown.STATE, Scenes.begun(beyondQuota),
                x -> x.restore(0, 0));
        Checks.refuses("P26 gone, quota", Thrown.STATE, Scenes.then(beyondQuota, x -> x.unlink(0)),
                x -> x.restore(0, 0));
        Checks.refuses("P26 held, quota", Thrown.STATE, Scenes.then(beyondQuota, x -> {
            x.openHold(0, 1);
            x.unlink(0);
        }), x -> x.restore(0, 0));
    }

    private static void openHold() {
        Checks.Scene begun = Scenes.begun(OrderTest::atQuota);
        Checks.Scene thirty = Scenes.holds(30);
        for (int number : NO_FILE) {
            int file = number;
            Checks.refuses("P27 file, days 0", Thrown.INDEX, OrderTest::atQuota,
                    x -> x.openHold(file, 0));
            Checks.refuses("P27 file, days 100", Thrown.INDEX, OrderTest::atQuota,
                    x -> x.openHold(file, 100));
            Checks.refuses("P27 file, begun", Thrown.INDEX, begun, x -> x.openHold(file, 1));
            Checks.refuses("P27 file, 30 holds", Thrown.INDEX, thirty, x -> x.openHold(file, 1));
            Checks.refuses("P27 file, days, begun", Thrown.INDEX, begun, x -> x.openHold(file, 0));
        }
        for (int number : new int[] {-1, 0, 100}) {
            int days = number;
            Checks.refuses("P27 days, begun", Thrown.ARGUMENT, begun, x -> x.openHold(0, days));
            Checks.refuses("P27 days, gone", Thrown.ARGUMENT, OrderTest::gone,
                    x -> x.openHold(1, days));
            Checks.refuses("P27 days, 30 holds", Thrown.ARGUMENT, thirty, x -> x.openHold(0, days));
        }
    }

    private static void release() {
        for (int number : new int[] {-1, 2, 30}) {
            int hold = number;
            Checks.refuses("P28 hold, begun", Thrown.INDEX, Scenes.begun(Scenes.holds(2)),
                    x -> x.release(hold));
        }
    }

    private static void pass() {
        for (int number : new int[] {-1, 0, 100}) {
            int days = number;
            Checks.refuses("P32 days, begun", Thrown.ARGUMENT, Scenes.begun(Scenes.holds(2)),
                    x -> x.pass(days));
            Checks.refuses("P32 days, day 9999", Thrown.ARGUMENT, Scenes.day(9999),
                    x -> x.pass(days));
            Checks.refuses("P32 days, begun, day 9999", Thrown.ARGUMENT,
                    Scenes.begun(Scenes.day(9999)), x -> x.pass(days));
        }
    }
}
