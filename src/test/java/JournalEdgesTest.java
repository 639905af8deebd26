import java.util.LinkedHashMap;
import java.util.Map;

/** Promises 34 to 38 at their boundaries, with what the terms say of the journal. */
public final class JournalEdgesTest {
    private static final Map<Character, Checks.Ask> NOTED = noted();

    public static void main(String[] args) {
        begin();
        commit();
        crash();
        eachKindIsNoted();
        eachKindIsTakenBack();
        othersAreNotNoted();
        refusedAreNotNoted();
        answersInTransaction();
        crashTakesBack();
        crashKeepsLine();
        entryNumbers();
        entriesAfterCrash();
        lastCalls();
        Checks.finish("JournalEdgesTest");
    }

    /** Two owners, file 0 with a value at 3, owner 0 with a promise, a snapshot, a hold, a line. */
    private static void ready(InodeCouncil x) {
        x.addOwner(60);
        x.addOwner(5);
        x.createFile(0);
        x.write(0, 3, 30);
        x.promise(0, 7);
        x.takeSnapshot(4);
        x.openHold(0, 9);
        x.writeFile(0);
    }

    /** The calls that make an entry of the journal, by the kind of it; all go after ready. */
    private static Map<Character, Checks.Ask> noted() {
        Map<Character, Checks.Ask> calls = new LinkedHashMap<>();
        calls.put('c', x -> x.createFile(1));
        calls.put('l', x -> x.link(0));
        calls.put('u', x -> x.unlink(0));
        calls.put('w', x -> x.write(0, 3, 31));
        calls.put('h', x -> x.punch(0, 3));
        calls.put('p', x -> x.promise(1, 2));
        calls.put('g', x -> x.giveBack(0));
        return calls;
    }

    // "if a transaction is open"
    private static void begin() {
        for (int entries : new int[] {0, 1, 2, 40}) {
            Checks.Scene scene = entries == 0 ? Scenes.NEW : Scenes.files(entries);
            Checks.due("P34 of " + entries, Checks.made(scene).begin(), entries);
            Checks.refuses("P34 of " + entries + ", begun", Thrown.STATE, Scenes.begun(scene),
                    x -> x.begin());
        }
        Checks.refuses("P34 begun, with entries", Thrown.STATE,
                Scenes.then(Scenes.begun(JournalEdgesTest::ready), x -> x.link(0)), x -> x.begin());
        InodeCouncil x = Checks.made(Scenes.begun(Scenes.files(1)));
        x.commit();
        Checks.due("P34 committed", x.begin(), 1);
        x.link(0);
        x.crash();
        Checks.due("P34 crashed", x.begin(), 1);
    }

    // "if no transaction is open", "the number of entries that it made"
    private static void commit() {
        Checks.refuses("P35 none begun", Thrown.STATE, Scenes.NEW, x -> x.commit());
        Checks.refuses("P35 committed", Thrown.STATE,
                Scenes.then(Scenes.begun(JournalEdgesTest::ready), x -> x.commit()),
                        x -> x.commit());
        Checks.refuses("P35 crashed", Thrown.STATE,
                Scenes.then(Scenes.begun(JournalEdgesTest::ready), x -> x.crash()),
                        x -> x.commit());
        for (int entries : new int[] {0, 1, 2, 39}) {
            InodeCouncil x = Checks.made(Scenes.begun(Scenes.files(1)));
            for (int file = 0; file < entries; file++) {
                x.createFile(0);
            }
            Checks.due("P35 of " + entries, x.commit(), entries);
            Checks.due("P37 of " + entries, x.journalSize(), 1 + entries);
            Checks.due("P4 of " + entries, x.fileCount(), 1 + entries);
        }
    }

    // "0 if no transaction is open"
    private static void crash() {
        Checks.due("P36 of a new object", new InodeCouncil().crash(), 0);
        Checks.due("P36 none begun", Checks.made(JournalEdgesTest::ready).crash(), 0);
        Checks.onlyTells("P36 of a new object", Scenes.NEW, x -> x.crash());
        Checks.onlyTells("P36 none begun", JournalEdgesTest::ready, x -> x.crash());
        for (int entries : new int[] {0, 1, 2, 39}) {
            InodeCouncil x = Checks.made(Scenes.begun(Scenes.files(1)));
            for (int file = 0; file < entries; file++) {
                x.createFile(0);
            }
            Checks.due("P36 of " + entries, x.crash(), entries);
            Checks.due("P37 of " + entries, x.journalSize(), 1);
            Checks.due("P4 of " + entries, x.fileCount(), 1);
            Checks.due("P36 of " + entries + ", again", x.crash(), 0);
        }
    }

    // "makes an entry of the journal, in a transaction or not"
    private static void eachKindIsNoted() {
        for (Map.Entry<Character, Checks.Ask> call : NOTED.entrySet()) {
            char kind = call.getKey();
            InodeCouncil x = Checks.made(JournalEdgesTest::ready);
            call.getValue().of(x);
            Checks.due("P37 " + kind, x.journalSize(), 4);
            Checks.due("P38 " + kind, x.entryKind(3), kind);
            InodeCouncil begun = Checks.made(Scenes.begun(JournalEdgesTest::ready));
            call.getValue().of(begun);
            Checks.due("P37 begun, " + kind, begun.journalSize(), 4);
            Checks.due("P38 begun, " + kind, begun.entryKind(3), kind);
            Checks.due("P35 " + kind, begun.commit(), 1);
            Checks.due("P38 committed, " + kind, begun.entryKind(3), kind);
        }
    }

    // "everything is as it was when the transaction began, the journal included"
    private static void eachKindIsTakenBack() {
        for (Map.Entry<Character, Checks.Ask> call : NOTED.entrySet()) {
            char kind = call.getKey();
            InodeCouncil x = Checks.made(Scenes.begun(JournalEdgesTest::ready));
            call.getValue().of(x);
            Checks.due("P36 " + kind, x.crash(), 1);
            Checks.onlyTells("P36 " + kind, JournalEdgesTest::ready, y -> {
                y.begin();
                call.getValue().of(y);
                return y.crash();
            });
            Checks.onlyTells("P36 committed, " + kind, y -> {
                ready(y);
                y.begin();
                call.getValue().of(y);
                y.commit();
            }, y -> y.crash());
        }
    }

    /** The calls that make no entry, each with an answer. */
    private static void othersAreNotNoted() {
        Map<String, Checks.Ask> others = new LinkedHashMap<>();
        others.put("addOwner", x -> x.addOwner(1));
        others.put("takeSnapshot", x -> x.takeSnapshot(1));
        others.put("thin", x -> x.thin(0));
        others.put("restore", x -> x.restore(0, 0));
        others.put("openHold", x -> x.openHold(0, 1));
        others.put("release", x -> x.release(0));
        others.put("pass", x -> x.pass(99));
        others.put("begin", x -> x.begin());
        others.put("crash", x -> x.crash());
        others.put("writeFile", x -> x.writeFile(0));
        others.put("usersByWalk", x -> x.usersByWalk(0));
        others.put("isConsistent", x -> x.isConsistent());
        for (Map.Entry<String, Checks.Ask> call : others.entrySet()) {
            InodeCouncil x = Checks.made(JournalEdgesTest::ready);
            Checks.due(call.getKey() + " throws", Checks.thrown(Checks.answer(x, call.getValue())),
                    false);
            Checks.due("P37 " + call.getKey(), x.journalSize(), 3);
        }
        InodeCouncil x = Checks.made(Scenes.begun(JournalEdgesTest::ready));
        x.commit();
        Checks.due("P37 commit", x.journalSize(), 3);
    }

    // "Each successful call"
    private static void refusedAreNotNoted() {
        InodeCouncil x = Checks.made(Scenes.begun(JournalEdgesTest::ready));
        Checks.answer(x, y -> y.createFile(2));
        Checks.answer(x, y -> y.link(1));
        Checks.answer(x, y -> y.unlink(1));
        Checks.answer(x, y -> y.write(0, 3, 1000));
        Checks.answer(x, y -> y.punch(0, 4));
        Checks.answer(x, y -> y.promise(0, 64));
        Checks.answer(x, y -> y.giveBack(1));
        Checks.due("P37 refused", x.journalSize(), 3);
        Checks.due("P36 refused", x.crash(), 0);
    }

    /** The calls that are not refused in a transaction answer there as they do elsewhere. */
    private static void answersInTransaction() {
        Map<String, Checks.Ask> calls = new LinkedHashMap<>();
        calls.put("doesExist", x -> x.doesExist(0));
        calls.put("read", x -> x.read(0, 3));
        calls.put("blockAt", x -> x.blockAt(0, 3));
        calls.put("usedBy", x -> x.usedBy(0));
        calls.put("usersOf", x -> x.usersOf(0));
        calls.put("usersByWalk", x -> x.usersByWalk(0));
        calls.put("promisedTo", x -> x.promisedTo(0));
        calls.put("isKept", x -> x.isKept(0));
        calls.put("readFrom", x -> x.readFrom(0, 0, 3));
        calls.put("nextToDrop", x -> x.nextToDrop());
        calls.put("isOpen", x -> x.isOpen(0));
        calls.put("holdsOn", x -> x.holdsOn(0));
        calls.put("nextEnd", x -> x.nextEnd());
        calls.put("meanUsers", x -> x.meanUsers());
        calls.put("heldShare", x -> x.heldShare());
        calls.put("isConsistent", x -> x.isConsistent());
        calls.put("writeFile", x -> x.writeFile(0) + Checks.line(x, 7));
        NOTED.forEach((kind, call) -> calls.put("noted as " + kind, call));
        for (Map.Entry<String, Checks.Ask> call : calls.entrySet()) {
            Object want = Checks.answer(Checks.made(JournalEdgesTest::ready), call.getValue());
            Checks.due(call.getKey() + " throws", Checks.thrown(want), false);
            Checks.due(call.getKey() + " begun", Checks.answer(
                    Checks.made(Scenes.begun(JournalEdgesTest::ready)), call.getValue()), want);
        }
    }

    /** What a transaction frees, another of its calls may use. */
    private static void crashTakesBack() {
        Checks.onlyTells("P36 a file gone, its block used anew", Scenes.then(Scenes.files(2),
                x -> x.write(0, 5, 50)), x -> {
            x.begin();
            x.unlink(0);
            x.write(1, 0, 9);
            return x.crash();
        });
        Checks.onlyTells("P36 a shared block written", JournalEdgesTest::ready, x -> {
            x.begin();
            x.write(0, 3, 1);
            x.write(0, 3, 2);
            return x.crash();
        });
        Checks.onlyTells("P36 all promised", JournalEdgesTest::ready, x -> {
            x.begin();
            x.giveBack(0);
            x.promise(1, 63);
            return x.crash();
        });
        Checks.onlyTells("P36 nine links", JournalEdgesTest::ready, x -> {
            x.begin();
            for (int links = 1; links < 9; links++) {
                x.link(0);
            }
            return x.crash();
        });
        Checks.onlyTells("P36 forty files", JournalEdgesTest::ready, x -> {
            x.begin();
            for (int files = 1; files < 40; files++) {
                x.createFile(files % 2);
            }
            return x.crash();
        });
        Checks.onlyTells("P36 twice", JournalEdgesTest::ready, x -> {
            x.begin();
            x.unlink(0);
            x.crash();
            x.begin();
            x.punch(0, 3);
            return x.crash();
        });
    }

    // "The line is not changed by a crash."
    private static void crashKeepsLine() {
        InodeCouncil before = Checks.made(Scenes.begun(JournalEdgesTest::ready));
        before.link(0);
        before.crash();
        Checks.due("P43 written before", Checks.line(before, 7), "0x1 3:0");
        InodeCouncil x = Checks.made(Scenes.begun(JournalEdgesTest::ready));
        x.createFile(1);
        Checks.due("P42 written in it", x.writeFile(1), 3);
        x.crash();
        Checks.due("P43 written in it", Checks.line(x, 3), "1x1");
        Checks.due("P43 no longer", Checks.answer(x, y -> y.lineAt(3)), Thrown.INDEX.getName());
        x.crash();
        Checks.due("P43 none begun", Checks.line(x, 3), "1x1");
        InodeCouncil empty = Checks.made(Scenes.begun(Scenes.NEW));
        empty.crash();
        Checks.due("P43 empty", Checks.answer(empty, y -> y.lineAt(0)), Thrown.INDEX.getName());
    }

    // "if there is no such entry"
    private static void entryNumbers() {
        Checks.bounds("P38 of none, entry", Thrown.INDEX, 0, -1, Scenes.NEW,
                (x, entry) -> x.entryKind(entry), entry -> ' ');
        for (int entries : new int[] {1, 2, 40}) {
            Checks.bounds("P38 of " + entries + ", entry", Thrown.INDEX, 0, entries - 1,
                    Scenes.files(entries), (x, entry) -> x.entryKind(entry), entry -> 'c');
            Checks.bounds("P38 begun, of " + entries + ", entry", Thrown.INDEX, 0, entries - 1,
                    Scenes.begun(Scenes.files(entries)), (x, entry) -> x.entryKind(entry),
                    entry -> 'c');
        }
    }

    private static void entriesAfterCrash() {
        Checks.Scene crashed = Scenes.then(Scenes.begun(JournalEdgesTest::ready), x -> {
            x.link(0);
            x.unlink(0);
            x.crash();
        });
        Checks.bounds("P38 crashed, entry", Thrown.INDEX, 0, 2, crashed,
                (x, entry) -> x.entryKind(entry), entry -> "cwp".charAt(entry));
        Checks.bounds("P38 crashed, one more, entry", Thrown.INDEX, 0, 3,
                Scenes.then(crashed, x -> x.giveBack(0)), (x, entry) -> x.entryKind(entry),
                entry -> "cwpg".charAt(entry));
    }

    // "An object is used for at most 512 calls"
    private static void lastCalls() {
        InodeCouncil size = filled(509);
        Checks.due("P37 call 512", size.journalSize(), 510);
        InodeCouncil kind = filled(509);
        Checks.due("P38 call 512", kind.entryKind(509), 'w');
        InodeCouncil next = filled(509);
        Checks.due("P38 call 512, next", Checks.answer(next, x -> x.entryKind(510)),
                Thrown.INDEX.getName());
        InodeCouncil written = filled(509);
        Checks.due("P9 call 512", written.write(0, 0, 1), 0);
        InodeCouncil crashed = new InodeCouncil();
        crashed.addOwner(1);
        crashed.createFile(0);
        crashed.begin();
        writeOften(crashed, 508);
        Checks.due("P36 call 512", crashed.crash(), 508);
        InodeCouncil committed = new InodeCouncil();
        committed.addOwner(1);
        committed.begin();
        committed.createFile(0);
        writeOften(committed, 508);
        Checks.due("P35 call 512", committed.commit(), 509);
    }

    /** 2 calls, and as many writes. */
    private static InodeCouncil filled(int writes) {
        InodeCouncil x = new InodeCouncil();
        x.addOwner(1);
        x.createFile(0);
        writeOften(x, writes);
        return x;
    }

    private static void writeOften(InodeCouncil x, int writes) {
        for (int n = 0; n < writes; n++) {
            x.write(0, 0, n);
        }
    }
}
