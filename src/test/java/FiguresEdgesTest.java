/** Promises 39 to 43 at their boundaries. */
public final class FiguresEdgesTest {
    public static void main(String[] args) {
        meanUsers();
        meanUsersFractions();
        meanUsersNone();
        heldShare();
        heldShareNone();
        heldShareOfHeld();
        isConsistent();
        writeFileNumbers();
        writeFilePlaces();
        writeFileBlocks();
        writeFileLinks();
        writeFileInPlace();
        lineIndexes();
        emptyLine();
        Checks.finish("FiguresEdgesTest");
    }

    private static void meanUsers() {
        for (int kept = 0; kept <= 8; kept++) {
            Checks.due("P39 with " + kept + " snapshots", Checks.made(Scenes.snapshots(kept))
                    .meanUsers(), (double) (kept + 1));
        }
        InodeCouncil one = Checks.made(Scenes.files(1));
        one.write(0, 15, 1);
        Checks.due("P39 one block", one.meanUsers(), 1.0);
        InodeCouncil all = Checks.made(Scenes.files(4));
        Scenes.fill(all, 0, 64);
        Checks.due("P39 all blocks", all.meanUsers(), 1.0);
        for (int rank = 0; rank < 8; rank++) {
            all.takeSnapshot(rank);
        }
        Checks.due("P39 all blocks, 8 snapshots", all.meanUsers(), 9.0);
        all.punch(3, 15);
        Checks.due("P39 one less", all.meanUsers(), 575.0 / 64.0);
    }

    // "divided by how many blocks these are, both converted to double"
    private static void meanUsersFractions() {
        for (int places : new int[] {1, 2, 3, 6, 7, 11, 13, 48}) {
            InodeCouncil x = Checks.made(Scenes.files(4));
            x.write(0, 0, 1);
            x.takeSnapshot(0);
            Scenes.fill(x, 1, places);
            Checks.due("P39 of " + places + " more", x.meanUsers(),
                    (double) (places + 2) / (double) (places + 1));
        }
        InodeCouncil inSnapshotsAlone = Checks.made(Scenes.snapshots(2));
        inSnapshotsAlone.unlink(0);
        Checks.due("P39 in snapshots alone", inSnapshotsAlone.meanUsers(), 2.0);
    }

    // "if all blocks are free"
    private static void meanUsersNone() {
        Checks.refuses("P39 no files", Thrown.ARITHMETIC, Scenes.NEW, x -> x.meanUsers());
        Checks.refuses("P39 holes", Thrown.ARITHMETIC, Scenes.files(40), x -> x.meanUsers());
        Checks.refuses("P39 empty snapshots", Thrown.ARITHMETIC, Scenes.then(Scenes.files(2),
                x -> x.takeSnapshot(0)), x -> x.meanUsers());
        Checks.refuses("P39 promised", Thrown.ARITHMETIC, Scenes.then(Scenes.files(1),
                x -> x.promise(0, 64)), x -> x.meanUsers());
        Checks.Scene dropped = Scenes.then(Scenes.snapshots(8), x -> {
            x.unlink(0);
            x.thin(1);
        });
        Checks.due("P39 one snapshot left", Checks.made(dropped).meanUsers(), 1.0);
        Checks.refuses("P39 none left", Thrown.ARITHMETIC, Scenes.then(dropped, x -> x.thin(0)),
                x -> x.meanUsers());
    }

    // "divided by that of the files that exist, both converted to float"
    private static void heldShare() {
        for (int files : new int[] {1, 2, 3, 7, 29, 30}) {
            InodeCouncil x = Checks.made(Scenes.files(files));
            Checks.due("P40 none of " + files, x.heldShare(), 0.0f);
            for (int held = 1; held <= files; held++) {
                x.openHold(held - 1, 5);
                Checks.due("P40 " + held + " of " + files, x.heldShare(),
                        (float) held / (float) files);
            }
        }
        InodeCouncil forty = Checks.made(Scenes.files(40));
        forty.openHold(39, 1);
        Checks.due("P40 one of 40", forty.heldShare(), 1.0f / 40.0f);
        for (int file = 0; file < 39; file++) {
            forty.unlink(file);
        }
        Checks.due("P40 one of one", forty.heldShare(), 1.0f);
    }

    // "if no file exists"
    private static void heldShareNone() {
        Checks.refuses("P40 no files", Thrown.ARITHMETIC, Scenes.owners(4), x -> x.heldShare());
        Checks.refuses("P40 gone", Thrown.ARITHMETIC, Scenes.then(Scenes.snapshots(1),
                x -> x.unlink(0)), x -> x.heldShare());
        Checks.refuses("P40 taken back", Thrown.ARITHMETIC, Scenes.then(
                Scenes.begun(Scenes.owners(1)), x -> {
                    x.createFile(0);
                    x.crash();
                }), x -> x.heldShare());
        Checks.Scene held = Scenes.then(Scenes.holds(1), x -> {
            x.unlink(0);
            x.pass(8);
        });
        Checks.due("P40 the hold's last day", Checks.made(held).heldShare(), 1.0f);
        Checks.refuses("P40 the hold has ended", Thrown.ARITHMETIC,
                Scenes.then(held, x -> x.pass(1)), x -> x.heldShare());
    }

    private static void heldShareOfHeld() {
        InodeCouncil several = Checks.made(Scenes.then(Scenes.holds(30), x -> x.createFile(0)));
        Checks.due("P40 30 holds on one of two", several.heldShare(), 0.5f);
        several.unlink(0);
        Checks.due("P40 one of them without links", several.heldShare(), 0.5f);
        several.pass(9);
        Checks.due("P40 none of one", several.heldShare(), 0.0f);
        InodeCouncil released = Checks.made(Scenes.holds(2));
        released.release(0);
        Checks.due("P40 one hold left", released.heldShare(), 1.0f);
        released.release(1);
        Checks.due("P40 no hold left", released.heldShare(), 0.0f);
    }

    // "for each block ..., no file on which a hold is open is gone, and no more blocks are promised
    // than are free"
    private static void isConsistent() {
        InodeCouncil x = Checks.made(Scenes.NEW);
        Checks.due("P41 new", x.isConsistent(), true);
        Scenes.files(4).play(x);
        x.promise(0, 64);
        Checks.due("P41 all are promised", x.isConsistent(), true);
        for (int place = 0; place < 64; place++) {
            x.write(place / 16, place % 16, 1);
            Checks.due("P41 one less is free", x.isConsistent(), true);
        }
        x.takeSnapshot(0);
        x.openHold(3, 1);
        x.unlink(3);
        Checks.due("P41 held", x.isConsistent(), true);
        x.pass(1);
        Checks.due("P41 gone", x.isConsistent(), true);
        x.thin(0);
        Checks.due("P41 dropped", x.isConsistent(), true);
        x.promise(0, 16);
        x.begin();
        x.giveBack(0);
        x.unlink(0);
        x.write(1, 0, 2);
        Checks.due("P41 begun", x.isConsistent(), true);
        x.crash();
        Checks.due("P41 crashed", x.isConsistent(), true);
        Checks.due("P41 crashed, promised", x.promisedTo(0) + " " + x.free(), "16 16");
    }

    // "if there is no such file"
    private static void writeFileNumbers() {
        for (int files : new int[] {0, 1, 2, 10, 11, 40}) {
            Checks.bounds("P42 of " + files + " files, file", Thrown.INDEX, 0, files - 1,
                    Scenes.files(files), (x, file) -> Checks.line(x, x.writeFile(file)),
                    file -> file + "x1");
        }
        Checks.bounds("P42 with a line before, file", Thrown.INDEX, 0, 0,
                Scenes.then(Scenes.snapshots(0), x -> x.writeFile(0)),
                (x, file) -> x.writeFile(file), file -> 79);
    }

    // "for each place that has a value, in ascending order, a blank, the place, ":" and the block"
    private static void writeFilePlaces() {
        StringBuilder want = new StringBuilder("0x1");
        InodeCouncil x = Checks.made(Scenes.files(1));
        Checks.due("P42 no place", Checks.line(x, x.writeFile(0)), "0x1");
        for (int place = 0; place < 16; place++) {
            x.write(0, place, 999 - place);
            want.append(' ').append(place).append(':').append(place);
            Checks.due("P42 to place " + place, Checks.line(x, x.writeFile(0)), want.toString());
        }
        InodeCouncil ends = Checks.made(Scenes.files(1));
        ends.write(0, 15, 1);
        Checks.due("P42 the last", Checks.line(ends, ends.writeFile(0)), "0x1 15:0");
        ends.write(0, 0, 1);
        Checks.due("P42 the first", Checks.line(ends, ends.writeFile(0)), "0x1 0:1 15:0");
        ends.punch(0, 15);
        Checks.due("P42 punched", Checks.line(ends, ends.writeFile(0)), "0x1 0:1");
    }

    private static void writeFileBlocks() {
        InodeCouncil x = Checks.made(Scenes.files(5));
        Scenes.fill(x, 0, 64);
        String[] want = {"0:0", "9:9", "10:10", "15:63"};
        int[] file = {0, 0, 0, 3};
        for (int n = 0; n < 4; n++) {
            String line = Checks.line(x, x.writeFile(file[n]));
            Checks.due("P42 " + want[n], (line + " ").contains(" " + want[n] + " "), true);
        }
    }

    // "its links"
    private static void writeFileLinks() {
        InodeCouncil x = Checks.made(Scenes.files(1));
        for (int links = 1; links <= 9; links++) {
            Checks.due("P42 links", Checks.line(x, x.writeFile(0)), "0x" + links);
            Checks.answer(x, y -> y.link(0));
        }
        x.write(0, 4, 1);
        x.openHold(0, 1);
        for (int links = 9; links > 0; links--) {
            x.unlink(0);
        }
        Checks.due("P42 held", Checks.line(x, x.writeFile(0)), "0x0 4:0");
        x.pass(1);
        Checks.due("P42 gone", Checks.line(x, x.writeFile(0)), "0x0");
    }

    // "in place of the line before"
    private static void writeFileInPlace() {
        InodeCouncil x = Checks.made(Scenes.snapshots(0));
        x.createFile(0);
        int longer = x.writeFile(0);
        int shorter = x.writeFile(1);
        Checks.due("P42 lengths", longer + " " + shorter, "79 3");
        Checks.due("P43 the shorter", Checks.line(x, 3), "1x1");
        Checks.due("P43 after it", Checks.answer(x, y -> y.lineAt(3)), Thrown.INDEX.getName());
        Checks.due("P43 where the longer ended", Checks.answer(x, y -> y.lineAt(78)),
                Thrown.INDEX.getName());
        Checks.answer(x, y -> y.writeFile(2));
        Checks.due("P43 after a refused one", Checks.line(x, 3), "1x1");
    }

    // "index of the character, from 0", "if there is no such character"
    private static void lineIndexes() {
        Checks.bounds("P43 of 3, index", Thrown.INDEX, 0, 2,
                Scenes.then(Scenes.files(1), x -> x.writeFile(0)), (x, index) -> x.lineAt(index),
                index -> "0x1".charAt(index));
        String line = "0x1 0:0 1:1 2:2 3:3 4:4 5:5 6:6 7:7 8:8 9:9"
                + " 10:10 11:11 12:12 13:13 14:14 15:15";
        Checks.bounds("P43 of a long line, index", Thrown.INDEX, 0, line.length() - 1,
                Scenes.then(Scenes.snapshots(0), x -> x.writeFile(0)),
                (x, index) -> x.lineAt(index), index -> line.charAt(index));
    }

    // "which is empty at first"
    private static void emptyLine() {
        Checks.bounds("P43 of a new object, index", Thrown.INDEX, 0, -1, Scenes.NEW,
                (x, index) -> x.lineAt(index), index -> ' ');
        Checks.bounds("P43 never written, index", Thrown.INDEX, 0, -1, Scenes.snapshots(1),
                (x, index) -> x.lineAt(index), index -> ' ');
    }
}
