import java.util.ArrayList;
import java.util.HashSet;
import java.util.List;
import java.util.Set;

/** Runs of 512 calls, always the same ones, whose answers must be those of the Model. */
public final class RandomRunsTest {
    private static final int RUNS = 240;
    private static final int CALLS = 512;

    // How often each call of Model.CALLS comes, of all calls and of those of three kinds of runs.
    private static final int[] EVEN = {
        2, 4, 1, 1, 1, 3, 4, 24, 6, 2, 2, 1, 2, 2, 2, 2, 4, 2, 2, 4, 1, 4, 2, 1, 5, 4, 2, 1, 1, 1,
        2, 1, 3, 2, 2, 1, 2, 2, 2, 2, 2, 2};
    private static final int[] BLOCKS = {
        1, 1, 0, 0, 0, 0, 1, 60, 4, 1, 1, 1, 2, 2, 2, 2, 6, 2, 1, 2, 0, 1, 1, 0, 4, 0, 0, 0, 0, 0,
        0, 0, 1, 1, 1, 0, 0, 1, 0, 1, 1, 1};
    private static final int[] SNAPSHOTS = {
        1, 3, 0, 0, 0, 1, 3, 30, 8, 1, 1, 1, 3, 2, 2, 2, 1, 1, 1, 12, 2, 10, 6, 3, 14, 1, 1, 0, 0,
        0, 1, 0, 1, 2, 0, 0, 0, 2, 0, 2, 1, 1};
    private static final int[] HOLDS = {
        1, 9, 1, 3, 2, 5, 14, 12, 2, 2, 1, 1, 2, 2, 1, 1, 1, 1, 1, 2, 1, 3, 1, 1, 2, 10, 5, 3, 4,
        4, 9, 2, 1, 2, 1, 1, 1, 1, 4, 2, 1, 1};
    private static final int[][] KINDS = {EVEN, BLOCKS, SNAPSHOTS, HOLDS};

    private static final int[] EDGES = {-1, 0, 1, 4, 8, 9, 10, 15, 16, 30, 40, 63, 64, 65, 99, 100,
        999, 1000, Integer.MAX_VALUE, Integer.MIN_VALUE};

    private static long seed = 20260101;
    private static final Set<String> seen = new HashSet<>();

    public static void main(String[] args) {
        for (int run = 0; run < RUNS; run++) {
            Checks.due("run " + run, firstWrong(run), "");
        }
        // A call that never answered, or never threw what it may, would not have been compared.
        for (String call : Model.CALLS) {
            Checks.due(call + " answered", seen.contains(call + " answers"), true);
        }
        for (String thrown : List.of("write UnsupportedOperationException",
                "promise UnsupportedOperationException", "restore UnsupportedOperationException",
                "restore NoSuchElementException", "takeSnapshot IllegalStateException",
                "meanUsers ArithmeticException", "heldShare ArithmeticException")) {
            Checks.due(thrown, seen.contains(thrown), true);
        }
        Checks.finish("RandomRunsTest");
    }

    /** The first call of a run whose answer is not the model's, with the calls before it, or "". */
    private static String firstWrong(int run) {
        InodeCouncil x = new InodeCouncil();
        Model model = new Model();
        List<String> told = new ArrayList<>();
        int[] often = KINDS[run % KINDS.length];
        for (int made = 0; made < CALLS; made++) {
            int call = made < 2 ? made : chosen(often);
            int a = argument(model, call, 0);
            int b = argument(model, call, 1);
            int c = argument(model, call, 2);
            Object want = outcome(() -> model.call(call, a, b, c));
            Object got = outcome(() -> call(x, call, a, b, c));
            told.add(Model.CALLS[call] + "(" + a + ", " + b + ", " + c + ") -> " + got);
            seen.add(Model.CALLS[call] + (want instanceof Class<?> thrown
                    ? " " + thrown.getSimpleName() : " answers"));
            if (!want.equals(got)) {
                return told + ", due is " + want;
            }
        }
        return "";
    }

    private interface Call {
        Object made();
    }

    private static Object outcome(Call call) {
        try {
            return call.made();
        } catch (RuntimeException e) {
            return e.getClass();
        }
    }

    private static int below(int bound) {
        seed = seed * 6364136223846793005L + 1442695040888963407L;
        return (int) ((seed >>> 33) % bound);
    }

    private static int chosen(int[] often) {
        int total = 0;
        for (int weight : often) {
            total += weight;
        }
        int left = below(total);
        int call = 0;
        while (left >= often[call]) {
            left -= often[call];
            call++;
        }
        return call;
    }

    /** Mostly an argument that the call can answer, and sometimes one at or past an edge. */
    private static int argument(Model model, int call, int which) {
        if (below(60) == 0) {
            return EDGES[below(EDGES.length)];
        }
        return switch (Model.CALLS[call]) {
            case "addOwner" -> below(2) == 0 ? below(16) : 8 + below(57);
            case "createFile", "usedBy", "promisedTo", "giveBack" -> model.someOwner(below(4));
            case "write" -> which == 0 ? file(model) : which == 1 ? place() : below(1000);
            case "usersOf", "usersByWalk" -> below(below(2) == 0 ? 64 : 10);
            case "promise" -> which == 0 ? model.someOwner(below(4))
                    : 1 + below(below(3) == 0 ? 64 : 8);
            case "takeSnapshot" -> below(10);
            case "isKept" -> below(30);
            case "readFrom" -> which == 0 ? snapshot(model) : which == 1 ? file(model) : place();
            case "thin" -> below(2) == 0 ? 7 : below(9);
            case "restore" -> which == 0 ? snapshot(model) : file(model);
            case "openHold" -> which == 0 ? file(model) : 1 + below(below(2) == 0 ? 99 : 9);
            case "release", "isOpen" -> below(4) == 0 ? below(30) : model.someHold(below(30));
            case "pass" -> 1 + below(below(8) == 0 ? 99 : 3);
            case "entryKind", "lineAt" -> below(below(2) == 0 ? 12 : 80);
            default -> which == 0 ? file(model) : place();
        };
    }

    private static int file(Model model) {
        return below(10) == 0 ? below(40) : model.someFile(below(40), below(8) != 0);
    }

    private static int place() {
        return below(3) == 0 ? below(16) : below(4);
    }

    private static int snapshot(Model model) {
        return below(10) == 0 ? below(30) : model.someSnapshot(below(30));
    }

    private static Object call(InodeCouncil x, int call, int a, int b, int c) {
        return switch (Model.CALLS[call]) {
            case "addOwner" -> x.addOwner(a);
            case "createFile" -> x.createFile(a);
            case "fileCount" -> x.fileCount();
            case "doesExist" -> x.doesExist(a);
            case "linksOf" -> x.linksOf(a);
            case "link" -> x.link(a);
            case "unlink" -> x.unlink(a);
            case "write" -> x.write(a, b, c);
            case "punch" -> x.punch(a, b);
            case "read" -> x.read(a, b);
            case "blockAt" -> x.blockAt(a, b);
            case "blocksOf" -> x.blocksOf(a);
            case "usedBy" -> x.usedBy(a);
            case "free" -> x.free();
            case "usersOf" -> x.usersOf(a);
            case "usersByWalk" -> x.usersByWalk(a);
            case "promise" -> x.promise(a, b);
            case "promisedTo" -> x.promisedTo(a);
            case "giveBack" -> x.giveBack(a);
            case "takeSnapshot" -> x.takeSnapshot(a);
            case "isKept" -> x.isKept(a);
            case "readFrom" -> x.readFrom(a, b, c);
            case "thin" -> x.thin(a);
            case "nextToDrop" -> x.nextToDrop();
            case "restore" -> x.restore(a, b);
            case "openHold" -> x.openHold(a, b);
            case "release" -> x.release(a);
            case "isOpen" -> x.isOpen(a);
            case "holdsOn" -> x.holdsOn(a);
            case "nextEnd" -> x.nextEnd();
            case "pass" -> x.pass(a);
            case "day" -> x.day();
            case "begin" -> x.begin();
            case "commit" -> x.commit();
            case "crash" -> x.crash();
            case "journalSize" -> x.journalSize();
            case "entryKind" -> x.entryKind(a);
            case "meanUsers" -> x.meanUsers();
            case "heldShare" -> x.heldShare();
            case "isConsistent" -> x.isConsistent();
            case "writeFile" -> x.writeFile(a);
            default -> x.lineAt(a);
        };
    }
}
