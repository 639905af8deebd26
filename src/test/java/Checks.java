import java.util.List;
import java.util.Objects;
import java.util.Set;
import java.util.TreeSet;

/** What all tests share: counting, and what an object answers to everything it can be asked. */
final class Checks {
    /** Calls that bring a new object to where a test starts. */
    interface Scene {
        void play(InodeCouncil x);
    }

    /** A call, with its answer. */
    interface Ask {
        Object of(InodeCouncil x);
    }

    /** A call with a number that is tried, with its answer. */
    interface NumberAsk {
        Object of(InodeCouncil x, int number);
    }

    /** The answer that is due for a number that is tried. */
    interface Want {
        Object of(int number);
    }

    // Far beyond every bound, and where a product or a shift of 32 bits wraps around to 0.
    private static final int[] FAR = {Integer.MIN_VALUE, -(1 << 28), -(1 << 16), 1 << 16, 1 << 28,
        1 << 30, Integer.MAX_VALUE};

    // Refused calls come one after the other at the same scene, whose portrait serves them all.
    private static Scene portrayed = null;
    private static List<String> portrait = List.of();
    private static int held = 0;
    private static int broken = 0;

    private Checks() {
    }

    static InodeCouncil made(Scene scene) {
        InodeCouncil x = new InodeCouncil();
        scene.play(x);
        return x;
    }

    static void due(String what, Object got, Object want) {
        if (Objects.equals(got, want)) {
            held++;
        } else {
            broken++;
            System.out.println(what + " answered " + got + ", due is " + want);
        }
    }

    /** The call must throw just this exception, and change nothing. */
    static void refuses(String what, Class<? extends RuntimeException> want, Scene scene, Ask call) {
        due(what, answer(made(scene), call), want.getName());
        due(what + " then changed", changed(scene, call), "nothing");
    }

    /**
     * The call must answer as due to the least and the most number and those beside them, and
     * refuse, without a change, the next two beyond and those far beyond. There is no number that
     * is allowed if the most is less than the least.
     */
    static void bounds(String what, Class<? extends RuntimeException> beyond, int least, int most,
            Scene scene, NumberAsk call, Want want) {
        for (int number : new TreeSet<>(List.of(least, least + 1, most - 1, most))) {
            if (number >= least && number <= most) {
                due(what + " " + number, answer(made(scene), x -> call.of(x, number)),
                        want.of(number));
            }
        }
        Set<Integer> outside = new TreeSet<>(List.of(least - 2, least - 1, most + 1, most + 2));
        for (int number : FAR) {
            outside.add(number);
        }
        for (int number : outside) {
            refuses(what + " " + number, beyond, scene, x -> call.of(x, number));
        }
    }

    /** The call must change nothing. */
    static void onlyTells(String what, Scene scene, Ask call) {
        due(what + " changed", changed(scene, call), "nothing");
    }

    static String line(InodeCouncil x, int length) {
        StringBuilder line = new StringBuilder();
        for (int i = 0; i < length; i++) {
            line.append(x.lineAt(i));
        }
        return line.toString();
    }

    static void finish(String name) {
        System.out.println(name + ": " + held + " checks hold, " + broken + " do not");
        if (broken != 0 || held == 0) {
            System.exit(1);
        }
    }

    static Object answer(InodeCouncil x, Ask call) {
        try {
            return call.of(x);
        } catch (RuntimeException e) {
            return e.getClass().getName();
        }
    }

    static boolean thrown(Object answer) {
        return answer instanceof String name && name.endsWith("Exception");
    }

    private static String changed(Scene scene, Ask call) {
        if (scene != portrayed) {
            portrait = Portrait.of(scene);
            portrayed = scene;
        }
        List<String> after = Portrait.of(x -> {
            scene.play(x);
            answer(x, call);
        });
        for (int i = 0; i < Math.min(portrait.size(), after.size()); i++) {
            if (!portrait.get(i).equals(after.get(i))) {
                return "from " + portrait.get(i) + " to " + after.get(i);
            }
        }
        return portrait.size() == after.size() ? "nothing" : "how much there is to ask";
    }
}
