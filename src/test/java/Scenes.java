/** Scenes that several tests begin with. */
final class Scenes {
    static final Checks.Scene NEW = x -> { };

    private Scenes() {
    }

    static Checks.Scene then(Checks.Scene first, Checks.Scene next) {
        return x -> {
            first.play(x);
            next.play(x);
        };
    }

    /** The scene, and a transaction is begun. */
    static Checks.Scene begun(Checks.Scene scene) {
        return then(scene, x -> x.begin());
    }

    /** As many owners, each with a quota of 64. */
    static Checks.Scene owners(int owners) {
        return x -> {
            for (int owner = 0; owner < owners; owner++) {
                x.addOwner(64);
            }
        };
    }

    /** One owner with a quota of 64, and as many files without blocks. */
    static Checks.Scene files(int files) {
        return x -> {
            x.addOwner(64);
            for (int file = 0; file < files; file++) {
                x.createFile(0);
            }
        };
    }

    /** One owner, a file with a value in every place, and as many snapshots of rank 5. */
    static Checks.Scene snapshots(int taken) {
        return x -> {
            files(1).play(x);
            fill(x, 0, 16);
            for (int snapshot = 0; snapshot < taken; snapshot++) {
                x.thin(7);
                x.takeSnapshot(5);
            }
        };
    }

    /** One owner, a file, and as many holds on it, each for 9 days. */
    static Checks.Scene holds(int opened) {
        return x -> {
            files(1).play(x);
            for (int hold = 0; hold < opened; hold++) {
                x.openHold(0, 9);
            }
        };
    }

    /** As many days have passed: 99 at a time, and then the rest. */
    static Checks.Scene day(int day) {
        return x -> {
            for (int passed = 0; passed < day; passed += 99) {
                x.pass(Math.min(99, day - passed));
            }
        };
    }

    /** Fills places with their own numbers, 16 in each file from the first one on. */
    static void fill(InodeCouncil x, int firstFile, int places) {
        for (int n = 0; n < places; n++) {
            x.write(firstFile + n / 16, n % 16, n % 16);
        }
    }
}
