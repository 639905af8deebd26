import java.util.ArrayList;
import java.util.List;

/** All that can be learned of an object: what it answers to every question, and how it goes on. */
final class Portrait {
    // An object is used for 512 calls; scenes and ways on leave room for this many questions.
    private static final int ASKS_AN_OBJECT = 120;
    private static final int OWNERS = 4;
    private static final int FILES = 40;
    private static final int PLACES = 16;
    private static final int SNAPSHOTS = 30;
    private static final int HOLDS = 30;
    private static final int BLOCKS = 64;

    private final Checks.Scene scene;
    private final List<String> told = new ArrayList<>();
    private InodeCouncil x;
    private int asked;

    private Portrait(Checks.Scene scene) {
        this.scene = scene;
        startAnew();
    }

    static List<String> of(Checks.Scene scene) {
        Portrait portrait = new Portrait(scene);
        portrait.askAll();
        portrait.goOnInAllWays();
        if (!Checks.thrown(Checks.answer(Checks.made(scene), x -> x.commit()))) {
            Portrait crashed = new Portrait(Scenes.then(scene, x -> x.crash()));
            crashed.askAll();
            portrait.told.addAll(crashed.told);
        }
        return portrait.told;
    }

    private void startAnew() {
        x = Checks.made(scene);
        asked = 0;
    }

    private Object ask(String question, Checks.Ask ask) {
        if (asked == ASKS_AN_OBJECT) {
            startAnew();
        }
        asked++;
        Object answer = Checks.answer(x, ask);
        told.add(question + " = " + answer);
        return answer;
    }

    // Questions, which change nothing.

    private void askAll() {
        ask("free", y -> y.free());
        ask("day", y -> y.day());
        ask("nextToDrop", y -> y.nextToDrop());
        ask("nextEnd", y -> y.nextEnd());
        ask("meanUsers", y -> y.meanUsers());
        ask("heldShare", y -> y.heldShare());
        ask("isConsistent", y -> y.isConsistent());
        askOwnersAndBlocks();
        int files = (int) ask("fileCount", y -> y.fileCount());
        for (int file = 0; file < files; file++) {
            askFile(file);
        }
        for (int snapshot = 0; snapshot <= SNAPSHOTS; snapshot++) {
            askSnapshot(snapshot, files);
        }
        for (int number = 0; number <= HOLDS; number++) {
            int hold = number;
            ask("isOpen " + hold, y -> y.isOpen(hold));
        }
        askJournalAndLine();
    }

    private void askOwnersAndBlocks() {
        for (int number = 0; number <= OWNERS; number++) {
            int owner = number;
            ask("usedBy " + owner, y -> y.usedBy(owner));
            ask("promisedTo " + owner, y -> y.promisedTo(owner));
        }
        for (int number = 0; number < BLOCKS; number++) {
            int block = number;
            ask("usersOf " + block, y -> y.usersOf(block));
            ask("usersByWalk " + block, y -> y.usersByWalk(block));
        }
    }

    private void askFile(int file) {
        ask("doesExist " + file, y -> y.doesExist(file));
        ask("linksOf " + file, y -> y.linksOf(file));
        ask("blocksOf " + file, y -> y.blocksOf(file));
        ask("holdsOn " + file, y -> y.holdsOn(file));
        for (int number = 0; number < PLACES; number++) {
            int place = number;
            ask("blockAt " + file + " " + place, y -> y.blockAt(file, place));
            ask("read " + file + " " + place, y -> y.read(file, place));
        }
    }

    private void askSnapshot(int snapshot, int files) {
        if (!Boolean.TRUE.equals(ask("isKept " + snapshot, y -> y.isKept(snapshot)))) {
            return;
        }
        for (int file = 0; file < files; file++) {
            for (int place = 0; place < PLACES; place++) {
                int f = file;
                int p = place;
                ask("readFrom " + snapshot + " " + f + " " + p, y -> y.readFrom(snapshot, f, p));
            }
        }
    }

    private void askJournalAndLine() {
        int entries = (int) ask("journalSize", y -> y.journalSize());
        for (int number = 0; number <= entries; number++) {
            int entry = number;
            ask("entryKind " + entry, y -> y.entryKind(entry));
        }
        boolean isLine = true;
        for (int number = 0; isLine; number++) {
            int index = number;
            isLine = !Checks.thrown(ask("lineAt " + index, y -> y.lineAt(index)));
        }
    }

    // Ways on, each with an object of its own: they tell quotas, owners of files, ranks, ends of
    // holds, and how many of each kind there have been.

    private void goOnInAllWays() {
        again("begin", 2, (y, n) -> y.begin());
        again("commit", 2, (y, n) -> y.commit());
        again("crash", 2, (y, n) -> y.crash());
        again("addOwner", OWNERS + 1, (y, n) -> y.addOwner(n));
        again("createFile", FILES + 1, (y, n) -> y.createFile(0));
        again("link", FILES, (y, n) -> y.link(n));
        again("unlink", FILES, (y, n) -> y.unlink(n));
        again("giveBack", OWNERS, (y, n) -> y.giveBack(n));
        again("release", HOLDS, (y, n) -> y.release(n));
        again("pass", 99, (y, n) -> y.nextEnd() + " " + y.pass(1));
        again("pass 99", 2, (y, n) -> y.pass(99));
        again("openHold", HOLDS + 1, (y, n) -> y.openHold(0, 1));
        again("takeSnapshot", SNAPSHOTS + 1, (y, n) -> y.thin(0) + " " + y.takeSnapshot(9));
        for (int rank = 0; rank <= 9; rank++) {
            rankAmongTheKept(rank);
        }
        for (int owner = 0; owner < OWNERS; owner++) {
            writesOfOwner(owner);
        }
        for (int file = 0; file < x.fileCount(); file++) {
            writesOfFile(file);
        }
        for (int snapshot = 0; snapshot < SNAPSHOTS; snapshot++) {
            restoreAll(snapshot);
        }
    }

    private void again(String call, int times, Checks.NumberAsk ask) {
        startAnew();
        for (int number = 0; number < times; number++) {
            int n = number;
            told.add(call + " " + n + " = " + Checks.answer(x, y -> ask.of(y, n)));
        }
        startAnew();
    }

    private void rankAmongTheKept(int rank) {
        startAnew();
        Checks.answer(x, y -> y.thin(7));
        Checks.answer(x, y -> y.takeSnapshot(rank));
        StringBuilder order = new StringBuilder();
        for (int left = 7; left >= 0; left--) {
            int count = left;
            order.append(Checks.answer(x, y -> y.nextToDrop() + " " + y.thin(count))).append(' ');
        }
        told.add("order with rank " + rank + " = " + order);
        startAnew();
    }

    private void writesOfOwner(int owner) {
        again("writes of owner " + owner, 5 * PLACES, (y, n) -> {
            if (n % PLACES == 0) {
                y.createFile(owner);
            }
            return y.write(y.fileCount() - 1, n % PLACES, n);
        });
    }

    private void writesOfFile(int file) {
        again("writes of file " + file, PLACES, (y, n) -> y.write(file, n, n));
        Checks.answer(x, y -> y.write(file, 0, 1));
        Checks.answer(x, y -> y.write(file, 1, 1));
        for (int owner = 0; owner < OWNERS; owner++) {
            int o = owner;
            told.add("used by " + o + " then = " + Checks.answer(x, y -> y.usedBy(o)));
        }
        startAnew();
    }

    private void restoreAll(int snapshot) {
        if (Boolean.TRUE.equals(Checks.answer(x, y -> y.isKept(snapshot)))) {
            again("restore " + snapshot, FILES, (y, n) -> y.restore(snapshot, n));
        }
    }
}
