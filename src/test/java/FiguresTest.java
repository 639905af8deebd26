/** Promises 39 to 43: figures and line. */
public final class FiguresTest {
    private static final Class<IndexOutOfBoundsException> INDEX = IndexOutOfBoundsException.class;
    private static final Class<ArithmeticException> ARITHMETIC = ArithmeticException.class;

    public static void main(String[] args) {
        meanUsers();
        heldShare();
        isConsistent();
        writeFile();
        longestLine();
        lineAt();
        Checks.finish("FiguresTest");
    }

    /** Blocks 0, 1 and 2 with 3, 2 and 2 users; files 0, 1 and 2, of which 1 is held. */
    private static void figures(InodeCouncil x) {
        x.addOwner(64);
        x.createFile(0);
        x.createFile(0);
        x.createFile(0);
        x.write(0, 0, 1);
        x.takeSnapshot(0);
        x.write(0, 4, 2);
        x.write(1, 7, 3);
        x.takeSnapshot(0);
        x.openHold(1, 5);
        x.openHold(1, 6);
        x.unlink(1);
    }

    private static void meanUsers() {
        InodeCouncil x = Checks.made(FiguresTest::figures);
        Checks.due("P39 seven of three", x.meanUsers(), 7.0 / 3.0);
        x.promise(0, 20);
        Checks.due("P39 promised are free", x.meanUsers(), 7.0 / 3.0);
        x.unlink(0);
        Checks.due("P39 in snapshots alone", x.meanUsers(), 5.0 / 3.0);
        x.thin(0);
        Checks.due("P39 one", x.meanUsers(), 1.0);
        Checks.onlyTells("P39", FiguresTest::figures, y -> y.meanUsers());
        Checks.refuses("P39 new", ARITHMETIC, y -> { }, y -> y.meanUsers());
        Checks.refuses("P39 all free", ARITHMETIC, y -> {
            y.addOwner(1);
            y.createFile(0);
            y.write(0, 0, 1);
            y.punch(0, 0);
        }, y -> y.meanUsers());
    }

    private static void heldShare() {
        InodeCouncil x = Checks.made(FiguresTest::figures);
        Checks.due("P40 a third", x.heldShare(), 1.0f / 3.0f);
        x.openHold(0, 1);
        Checks.due("P40 two thirds", x.heldShare(), 2.0f / 3.0f);
        x.pass(1);
        Checks.due("P40 ended", x.heldShare(), 1.0f / 3.0f);
        x.unlink(2);
        Checks.due("P40 one gone", x.heldShare(), 0.5f);
        x.pass(5);
        Checks.due("P40 none held", x.heldShare(), 0.0f);
        Checks.onlyTells("P40", FiguresTest::figures, y -> y.heldShare());
        Checks.refuses("P40 new", ARITHMETIC, y -> { }, y -> y.heldShare());
        Checks.refuses("P40 gone", ARITHMETIC, y -> {
            y.addOwner(1);
            y.createFile(0);
            y.unlink(0);
        }, y -> y.heldShare());
    }

    private static void isConsistent() {
        InodeCouncil x = Checks.made(FiguresTest::figures);
        Checks.due("P41 figures", x.isConsistent(), true);
        x.promise(0, 61);
        Checks.due("P41 all promised", x.isConsistent(), true);
        x.write(0, 0, 9);
        Checks.due("P41 one taken", x.isConsistent(), true);
        x.restore(1, 0);
        Checks.due("P41 restored", x.isConsistent(), true);
        x.begin();
        x.giveBack(0);
        x.unlink(0);
        Checks.due("P41 in a transaction", x.isConsistent(), true);
        x.crash();
        Checks.due("P41 crashed", x.isConsistent(), true);
        x.pass(6);
        x.thin(1);
        Checks.due("P41 ended and thinned", x.isConsistent(), true);
        Checks.onlyTells("P41", FiguresTest::figures, y -> y.isConsistent());
    }

    private static void writeFile() {
        InodeCouncil x = Checks.made(FiguresTest::figures);
        Checks.due("P42 length", x.writeFile(0), 11);
        Checks.due("P42 two places", Checks.line(x, 11), "0x1 0:0 4:1");
        Checks.due("P42 held", Checks.line(x, x.writeFile(1)), "1x0 7:2");
        Checks.due("P42 empty", Checks.line(x, x.writeFile(2)), "2x1");
        x.link(2);
        Checks.due("P42 a line is not kept up", Checks.line(x, 3), "2x1");
        Checks.due("P42 links", Checks.line(x, x.writeFile(2)), "2x2");
        x.unlink(0);
        Checks.due("P42 gone", Checks.line(x, x.writeFile(0)), "0x0");
        Checks.due("P42 shorter than before", Checks.answer(x, y -> y.lineAt(3)), INDEX.getName());
        Checks.due("P42 journal", x.journalSize(), 9);
        Checks.refuses("P42 3", INDEX, y -> {
            figures(y);
            y.writeFile(0);
        }, y -> y.writeFile(3));
        Checks.refuses("P42 -1", INDEX, FiguresTest::figures, y -> y.writeFile(-1));
    }

    private static void longestLine() {
        InodeCouncil x = new InodeCouncil();
        x.addOwner(64);
        for (int file = 0; file < 40; file++) {
            x.createFile(0);
        }
        for (int block = 0; block < 64; block++) {
            x.write(block / 16 == 3 ? 39 : block / 16, 15 - block % 16, block);
        }
        String want = "39x1 0:63 1:62 2:61 3:60 4:59 5:58 6:57 7:56 8:55 9:54"
                + " 10:53 11:52 12:51 13:50 14:49 15:48";
        Checks.due("P42 longest", x.writeFile(39), want.length());
        Checks.due("P42 longest line", Checks.line(x, want.length()), want);
    }

    private static void lineAt() {
        InodeCouncil x = Checks.made(FiguresTest::figures);
        x.writeFile(0);
        Checks.due("P43 first", x.lineAt(0), '0');
        Checks.due("P43 last", x.lineAt(10), '1');
        Checks.Scene written = y -> {
            figures(y);
            y.writeFile(0);
        };
        Checks.onlyTells("P43", written, y -> y.lineAt(0));
        Checks.refuses("P43 11", INDEX, written, y -> y.lineAt(11));
        Checks.refuses("P43 -1", INDEX, written, y -> y.lineAt(-1));
        Checks.refuses("P43 empty", INDEX, FiguresTest::figures, y -> y.lineAt(0));
    }
}
