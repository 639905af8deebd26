/** Promises 34 to 38: journal. */
public final class JournalTest {
    private static final Class<IndexOutOfBoundsException> INDEX = IndexOutOfBoundsException.class;
    private static final Class<IllegalStateException> STATE = IllegalStateException.class;

    public static void main(String[] args) {
        begin();
        commit();
        crash();
        crashTakesAllBack();
        crashKeeps();
        journalSize();
        entryKind();
        longJournal();
        Checks.finish("JournalTest");
    }

    /** A snapshot, a hold, a promise, days and a line, and four entries. */
    private static void ready(InodeCouncil x) {
        x.addOwner(5);
        x.addOwner(6);
        x.createFile(0);
        x.createFile(1);
        x.write(0, 0, 10);
        x.takeSnapshot(3);
        x.openHold(0, 4);
        x.pass(2);
        x.promise(1, 7);
        x.writeFile(0);
    }

    private static void inside(InodeCouncil x) {
        x.write(0, 0, 11);
        x.write(0, 0, 12);
        x.write(1, 3, 13);
        x.createFile(0);
        x.link(2);
        x.unlink(0);
        x.unlink(1);
        x.promise(0, 8);
        x.giveBack(1);
        x.write(2, 15, 14);
        x.punch(2, 15);
    }

    private static void begin() {
        InodeCouncil x = Checks.made(JournalTest::ready);
        Checks.due("P34 entries", x.begin(), 4);
        Checks.due("P34 makes none", x.journalSize(), 4);
        x.write(0, 1, 1);
        x.commit();
        Checks.due("P34 again", x.begin(), 5);
        x.crash();
        Checks.due("P34 after a crash", x.begin(), 5);
        Checks.due("P34 empty", new InodeCouncil().begin(), 0);
        Checks.refuses("P34 begun", STATE, y -> {
            ready(y);
            y.begin();
            inside(y);
        }, y -> y.begin());
    }

    private static void commit() {
        InodeCouncil x = Checks.made(JournalTest::ready);
        x.begin();
        inside(x);
        Checks.due("P35 entries", x.commit(), 11);
        Checks.due("P35 journal", x.journalSize(), 15);
        Checks.due("P35 stands after a crash", x.crash() + x.fileCount(), 3);
        x.begin();
        Checks.due("P35 none", x.commit(), 0);
        x.begin();
        x.giveBack(0);
        Checks.due("P35 one", x.commit(), 1);
        Checks.due("P35 out of it", x.takeSnapshot(0), 1);
        Checks.refuses("P35 not begun", STATE, JournalTest::ready, y -> y.commit());
        Checks.refuses("P35 twice", STATE, y -> {
            y.begin();
            y.commit();
        }, y -> y.commit());
        Checks.refuses("P35 crashed", STATE, y -> {
            y.begin();
            y.crash();
        }, y -> y.commit());
    }

    private static void crash() {
        InodeCouncil x = Checks.made(JournalTest::ready);
        x.begin();
        inside(x);
        Checks.due("P36 entries", x.crash(), 11);
        Checks.due("P36 journal", x.journalSize(), 4);
        Checks.due("P36 value", x.read(0, 0), 10);
        Checks.due("P36 block", x.blockAt(0, 0), 0);
        Checks.due("P36 files", x.fileCount(), 2);
        Checks.due("P36 links", x.linksOf(1), 1);
        Checks.due("P36 promised", x.promisedTo(1), 7);
        Checks.due("P36 again", x.crash(), 0);
        Checks.due("P36 next file", x.createFile(1), 2);
        Checks.due("P36 next file's owner", x.write(2, 0, 1) + x.usedBy(1), 2);
        InodeCouncil empty = new InodeCouncil();
        empty.begin();
        Checks.due("P36 none", empty.crash(), 0);
        Checks.due("P36 ends the transaction", empty.addOwner(1), 0);
        InodeCouncil inPlace = new InodeCouncil();
        inPlace.addOwner(1);
        inPlace.createFile(0);
        inPlace.write(0, 0, 1);
        inPlace.begin();
        inPlace.write(0, 0, 2);
        inPlace.crash();
        Checks.due("P36 value in place", inPlace.read(0, 0), 1);
    }

    private static void crashTakesAllBack() {
        Checks.onlyTells("P36 a transaction", JournalTest::ready, y -> {
            y.begin();
            inside(y);
            return y.crash();
        });
        Checks.onlyTells("P36 two transactions", JournalTest::ready, y -> {
            y.begin();
            y.crash();
            y.begin();
            inside(y);
            return y.crash();
        });
        Checks.onlyTells("P36 no transaction", y -> {
            ready(y);
            inside(y);
        }, y -> y.crash());
        Checks.onlyTells("P36 committed", y -> {
            ready(y);
            y.begin();
            inside(y);
            y.commit();
        }, y -> y.crash());
        Checks.onlyTells("P36 freed and used anew", JournalTest::ready, y -> {
            y.begin();
            y.write(1, 0, 1);
            y.punch(1, 0);
            y.write(0, 7, 99);
            return y.crash();
        });
    }

    private static void crashKeeps() {
        InodeCouncil x = Checks.made(JournalTest::ready);
        x.begin();
        x.link(1);
        int length = x.writeFile(1);
        x.crash();
        Checks.due("P36 the line", Checks.line(x, length), "1x2");
        Checks.due("P36 the day", x.day(), 2);
        Checks.due("P36 the snapshot", x.readFrom(0, 0, 0), 10);
        Checks.due("P36 the hold", x.isOpen(0), true);
    }

    private static void journalSize() {
        InodeCouncil x = new InodeCouncil();
        x.addOwner(1);
        Checks.due("P37 none", x.journalSize(), 0);
        x.createFile(0);
        Checks.due("P37 one", x.journalSize(), 1);
        x.takeSnapshot(0);
        x.restore(0, 0);
        x.openHold(0, 1);
        x.release(0);
        x.pass(1);
        x.thin(0);
        x.writeFile(0);
        x.begin();
        Checks.due("P37 others make none", x.journalSize(), 1);
        x.link(0);
        Checks.due("P37 in a transaction", x.journalSize(), 2);
        Checks.answer(x, y -> y.write(0, 0, 1000));
        Checks.due("P37 refused", x.journalSize(), 2);
        Checks.onlyTells("P37", JournalTest::ready, y -> y.journalSize());
    }

    private static void entryKind() {
        InodeCouncil x = Checks.made(JournalTest::ready);
        x.begin();
        inside(x);
        StringBuilder kinds = new StringBuilder();
        for (int entry = 0; entry < 15; entry++) {
            kinds.append(x.entryKind(entry));
        }
        Checks.due("P38 kinds", kinds.toString(), "ccwpwwwcluupgwh");
        x.crash();
        x.link(0);
        Checks.due("P38 after a crash", x.entryKind(4), 'l');
        Checks.onlyTells("P38", JournalTest::ready, y -> y.entryKind(0));
        Checks.refuses("P38 4", INDEX, JournalTest::ready, y -> y.entryKind(4));
        Checks.refuses("P38 -1", INDEX, JournalTest::ready, y -> y.entryKind(-1));
        Checks.refuses("P38 taken back", INDEX, y -> {
            ready(y);
            y.begin();
            inside(y);
            y.crash();
        }, y -> y.entryKind(4));
    }

    private static void longJournal() {
        InodeCouncil x = new InodeCouncil();
        x.addOwner(1);
        x.createFile(0);
        for (int calls = 2; calls < 510; calls++) {
            x.write(0, 0, calls);
        }
        Checks.due("P37 as many as calls", x.journalSize(), 509);
        Checks.due("P38 the last of them", x.entryKind(508), 'w');
    }
}
