import java.util.ArrayList;
import java.util.List;
import java.util.Objects;

/** What all tests share: counting, and what an object answers to everything it can be asked. */
final class Checks {
    /** Calls that bring a new object to where a test starts. */
    interface Scene {
        void play(InodeCouncil x);
    }

    /** A call, with its answer. */
    interface Ask {
        Object of(InodeCouncil x);
    }

    // An object is used for 512 calls; scenes leave room for this many questions.
    private static final int ASKS_AN_OBJECT = 200;
    private static final List<Ask> QUESTIONS = questions();
    private static final List<Ask> LAST_QUESTIONS = lastQuestions();

    private static int held = 0;
    private static int broken = 0;

    private Checks() {
    }

    static InodeCouncil made(Scene scene) {
        InodeCouncil x = new InodeCouncil();
        scene.play(x);
        return x;
    }

    static void due(String what, Object got, Object want) {
        if (Objects.equals(got, want)) {
            held++;
        } else {
            broken++;
            System.out.println(what + " answered " + got + ", due is " + want);
        }
    }

    /** The call must throw just this exception, and change nothing. */
    static void refuses(String what, Class<? extends RuntimeException> want, Scene scene, Ask call) {
        due(what, answer(made(scene), call), want.getName());
        due(what + " then changed", changed(scene, call), "nothing");
    }

    /** The call must change nothing. */
    static void onlyTells(String what, Scene scene, Ask call) {
        due(what + " changed", changed(scene, call), "nothing");
    }

    static String line(InodeCouncil x, int length) {
        StringBuilder line = new StringBuilder();
        for (int i = 0; i < length; i++) {
            line.append(x.lineAt(i));
        }
        return line.toString();
    }

    static void finish(String name) {
        System.out.println(name + ": " + held + " checks hold, " + broken + " do not");
        if (broken != 0 || held == 0) {
            System.exit(1);
        }
    }

    static Object answer(InodeCouncil x, Ask call) {
        try {
            return call.of(x);
        } catch (RuntimeException e) {
            return e.getClass().getName();
        }
    }

    private static String changed(Scene scene, Ask call) {
        List<Object> before = portrait(scene);
        List<Object> after = portrait(x -> {
            scene.play(x);
            answer(x, call);
        });
        for (int i = 0; i < before.size(); i++) {
            if (!Objects.equals(before.get(i), after.get(i))) {
                return "question " + i + " from " + before.get(i) + " to " + after.get(i);
            }
        }
        return "nothing";
    }

    private static List<Object> portrait(Scene scene) {
        List<Object> answers = new ArrayList<>();
        for (int from = 0; from < QUESTIONS.size(); from += ASKS_AN_OBJECT) {
            InodeCouncil x = made(scene);
            for (Ask ask : QUESTIONS.subList(from, Math.min(QUESTIONS.size(), from + ASKS_AN_OBJECT))) {
                answers.add(answer(x, ask));
            }
        }
        for (Ask ask : LAST_QUESTIONS) {
            answers.add(answer(made(scene), ask));
        }
        return answers;
    }

    /** Questions that change nothing. */
    private static List<Ask> questions() {
        List<Ask> asks = new ArrayList<>(List.of(x -> x.fileCount(), x -> x.free(), x -> x.day(),
                x -> x.journalSize(), x -> x.nextToDrop(), x -> x.nextEnd(), x -> x.meanUsers(),
                x -> x.heldShare(), x -> x.isConsistent()));
        for (int n = 0; n < 40; n++) {
            int k = n;
            asks.addAll(List.of(x -> x.doesExist(k), x -> x.linksOf(k), x -> x.blocksOf(k),
                    x -> x.holdsOn(k), x -> x.usedBy(k), x -> x.promisedTo(k), x -> x.isKept(k),
                    x -> x.isOpen(k), x -> x.entryKind(k), x -> x.lineAt(k)));
            for (int place = 0; place < 16; place++) {
                int p = place;
                asks.add(x -> x.blockAt(k % 8, p));
                asks.add(x -> x.read(k % 8, p));
                asks.add(x -> x.readFrom(k, p % 4, p / 4));
            }
        }
        for (int block = 0; block < 64; block++) {
            int b = block;
            asks.add(x -> x.usersOf(b));
            asks.add(x -> x.usersByWalk(b));
        }
        return asks;
    }

    /** Questions that change the object: each is put to an object of its own. */
    private static List<Ask> lastQuestions() {
        List<Ask> asks = new ArrayList<>(List.of(x -> x.addOwner(1), x -> x.createFile(0),
                x -> x.takeSnapshot(9), x -> x.openHold(0, 1), x -> x.pass(99), x -> x.pass(1),
                x -> x.begin(), x -> x.commit(), x -> x.crash()));
        asks.add(x -> x.crash() + ":" + x.journalSize() + ":" + x.fileCount() + ":" + x.free());
        for (int n = 0; n < 8; n++) {
            int k = n;
            asks.addAll(List.of(x -> x.link(k), x -> x.unlink(k), x -> x.giveBack(k),
                    x -> x.restore(0, k), x -> x.release(k), x -> x.thin(k), x -> written(x, k)));
        }
        return asks;
    }

    /** How many blocks a file may still take tells quotas and what is free for its owner. */
    private static String written(InodeCouncil x, int file) {
        StringBuilder blocks = new StringBuilder();
        for (int place = 0; place < 16; place++) {
            int p = place;
            blocks.append(answer(x, y -> y.write(file, p, 1))).append(' ');
        }
        return blocks.toString();
    }
}
