/** Promises 27 to 33 at their boundaries. */
public final class HoldsEdgesTest {
    private static final int[] SOME_HOLDS = {0, 1, 2, 30};

    public static void main(String[] args) {
        openHoldFiles();
        openHoldDays();
        holdsEndInTime();
        holdsEndInTimeLater();
        holdsInAll();
        openHoldRefused();
        openHoldOnTheLastDay();
        holdNumbers();
        releaseFiles();
        releaseRefused();
        isOpen();
        holdsOn();
        nextEndNone();
        nextEndFirst();
        nextEndOfSeveral();
        passDays();
        passLastDay();
        passRefused();
        passEnds();
        passEndsFiles();
        day();
        Checks.finish("HoldsEdgesTest");
    }

    /** The scene, and file 0 has no links any more. */
    private static Checks.Scene unlinked(Checks.Scene scene) {
        return Scenes.then(scene, x -> x.unlink(0));
    }

    /** A file, and a hold on it for as many days as are told, in their order. */
    private static Checks.Scene ends(int... days) {
        return Scenes.then(Scenes.files(1), x -> {
            for (int d : days) {
                x.openHold(0, d);
            }
        });
    }

    // "if there is no such file"
    private static void openHoldFiles() {
        for (int files : new int[] {0, 1, 2, 40}) {
            Checks.Scene scene = Scenes.files(files);
            Checks.bounds("P27 of " + files + " files, file", Thrown.INDEX, 0, files - 1, scene,
                    (x, file) -> x.openHold(file, 1) + " " + x.holdsOn(file), file -> "0 1");
            Checks.bounds("P30 of " + files + " files, file", Thrown.INDEX, 0, files - 1, scene,
                    (x, file) -> x.holdsOn(file), file -> 0);
        }
    }

    // "the number of days, 1 to 99"
    private static void openHoldDays() {
        Checks.bounds("P27 days", Thrown.ARGUMENT, 1, 99, Scenes.files(1),
                (x, days) -> x.openHold(0, days), days -> 0);
        Checks.bounds("P27 days on day 9999", Thrown.ARGUMENT, 1, 99,
                Scenes.then(Scenes.files(1), Scenes.day(9999)),
                (x, days) -> x.openHold(0, days) + " " + x.isOpen(0), days -> "0 true");
    }

    // "or until so many days have passed since it was opened"
    private static void holdsEndInTime() {
        for (int days : new int[] {1, 2, 98, 99}) {
            InodeCouncil x = Checks.made(unlinked(ends(days)));
            for (int passed = 1; passed <= days; passed++) {
                Checks.due("P29 for " + days + ", before day " + passed, x.isOpen(0), true);
                Checks.due("P32 for " + days + ", day " + passed, x.pass(1),
                        passed == days ? 1 : 0);
            }
            Checks.due("P29 for " + days + ", ended", x.isOpen(0), false);
            Checks.due("P5 for " + days + ", ended", x.doesExist(0), false);
        }
    }

    private static void holdsEndInTimeLater() {
        for (int days : new int[] {2, 50, 98}) {
            InodeCouncil x = Checks.made(Scenes.then(Scenes.files(1), Scenes.day(1234)));
            x.openHold(0, days);
            Checks.due("P32 one less than " + days, x.pass(days - 1), 0);
            Checks.due("P29 one less than " + days, x.isOpen(0), true);
            Checks.due("P32 all of " + days, x.pass(1), 1);
            InodeCouncil more = Checks.made(Scenes.then(Scenes.files(1), Scenes.day(1234)));
            more.openHold(0, days);
            Checks.due("P32 more than " + days, more.pass(days + 1), 1);
            Checks.due("P29 more than " + days, more.isOpen(0), false);
        }
    }

    // "or there have been 30 holds"
    private static void holdsInAll() {
        for (int holds : new int[] {0, 1, 28, 29}) {
            Checks.due("P27 after " + holds, Checks.made(Scenes.holds(holds)).openHold(0, 1),
                    holds);
        }
        Checks.refuses("P27 after 30", Thrown.STATE, Scenes.holds(30), x -> x.openHold(0, 1));
        Checks.refuses("P27 after 30, ended", Thrown.STATE,
                Scenes.then(Scenes.holds(30), x -> x.pass(9)), x -> x.openHold(0, 1));
        Checks.refuses("P27 after 30, one released", Thrown.STATE,
                Scenes.then(Scenes.holds(30), x -> x.release(29)), x -> x.openHold(0, 1));
        Checks.refuses("P27 after 30, on another file", Thrown.STATE,
                Scenes.then(Scenes.holds(30), x -> x.createFile(0)), x -> x.openHold(1, 1));
        InodeCouncil x = Checks.made(Scenes.then(Scenes.holds(29), y -> y.pass(9)));
        Checks.due("P27 after 29, ended", x.openHold(0, 1), 29);
    }

    // "if a transaction is open, the file does not exist"
    private static void openHoldRefused() {
        Checks.refuses("P27 begun", Thrown.STATE, Scenes.begun(Scenes.files(1)),
                x -> x.openHold(0, 1));
        Checks.refuses("P27 begun, a new file", Thrown.STATE,
                Scenes.then(Scenes.begun(Scenes.files(1)), x -> x.createFile(0)),
                x -> x.openHold(1, 1));
        Checks.refuses("P27 gone", Thrown.STATE, unlinked(Scenes.files(1)), x -> x.openHold(0, 1));
        Checks.refuses("P27 gone with its hold", Thrown.STATE,
                Scenes.then(unlinked(Scenes.holds(1)), x -> x.pass(9)), x -> x.openHold(0, 1));
        Checks.due("P27 its last hold's last day", Checks.made(Scenes.then(
                unlinked(Scenes.holds(1)), x -> x.pass(8))).openHold(0, 1), 1);
        InodeCouncil x = Checks.made(Scenes.begun(Scenes.files(1)));
        x.commit();
        Checks.due("P27 committed", x.openHold(0, 1), 0);
        x.begin();
        x.crash();
        Checks.due("P27 crashed", x.openHold(0, 1), 1);
    }

    private static void openHoldOnTheLastDay() {
        InodeCouncil x = Checks.made(Scenes.then(Scenes.files(1), Scenes.day(9998)));
        Checks.due("P27 to the last day", x.openHold(0, 1), 0);
        Checks.due("P27 beyond the last day", x.openHold(0, 2), 1);
        Checks.due("P32 the last day", x.pass(1), 1);
        Checks.due("P29 to the last day", x.isOpen(0), false);
        Checks.due("P29 beyond the last day", x.isOpen(1), true);
        Checks.due("P31 beyond the last day", x.nextEnd(), 1);
        Checks.due("P28 beyond the last day", x.release(1), 0);
    }

    // "if there is no such hold"
    private static void holdNumbers() {
        for (int holds : SOME_HOLDS) {
            String of = " of " + holds + " holds, hold";
            Checks.bounds("P28" + of, Thrown.INDEX, 0, holds - 1, Scenes.holds(holds),
                    (x, hold) -> x.release(hold) + " " + x.isOpen(hold), hold -> "0 false");
            Checks.bounds("P29" + of, Thrown.INDEX, 0, holds - 1, Scenes.holds(holds),
                    (x, hold) -> x.isOpen(hold), hold -> true);
        }
    }

    // "how many files are gone by this"
    private static void releaseFiles() {
        Checks.due("P28 links, no other hold", Checks.made(Scenes.holds(1)).release(0), 0);
        Checks.due("P28 links, another hold", Checks.made(Scenes.holds(2)).release(0), 0);
        Checks.due("P28 no links, another hold", Checks.made(unlinked(Scenes.holds(2))).release(1),
                0);
        Checks.due("P28 no links, no other hold", Checks.made(unlinked(Scenes.holds(1))).release(0),
                1);
        Checks.due("P28 no links, the other has ended", Checks.made(Scenes.then(
                unlinked(ends(1, 2)), x -> x.pass(1))).release(1), 1);
        InodeCouncil two = Checks.made(Scenes.then(Scenes.files(2), x -> {
            x.openHold(1, 5);
            x.openHold(0, 5);
            x.unlink(0);
            x.unlink(1);
        }));
        Checks.due("P28 another file's hold", two.release(0), 1);
        Checks.due("P5 its file", two.doesExist(1), false);
        Checks.due("P5 the other file", two.doesExist(0), true);
    }

    // "if a transaction is open, or the hold is not open"
    private static void releaseRefused() {
        Checks.refuses("P28 begun", Thrown.STATE, Scenes.begun(Scenes.holds(2)), x -> x.release(0));
        Checks.refuses("P28 released", Thrown.STATE, Scenes.then(Scenes.holds(2),
                x -> x.release(0)), x -> x.release(0));
        Checks.refuses("P28 ended", Thrown.STATE, Scenes.then(Scenes.holds(2), x -> x.pass(9)),
                x -> x.release(0));
        Checks.refuses("P28 ended, file gone", Thrown.STATE, Scenes.then(
                unlinked(Scenes.holds(2)), x -> x.pass(9)), x -> x.release(1));
        Checks.due("P28 the last day", Checks.made(Scenes.then(Scenes.holds(2), x -> x.pass(8)))
                .release(0), 0);
        InodeCouncil x = Checks.made(Scenes.begun(Scenes.holds(2)));
        x.commit();
        Checks.due("P28 committed", x.release(0), 0);
        x.begin();
        x.crash();
        Checks.due("P28 crashed", x.release(1), 0);
    }

    private static void isOpen() {
        InodeCouncil x = Checks.made(ends(1, 2, 3));
        x.release(1);
        Checks.due("P29 before a released one", x.isOpen(0), true);
        Checks.due("P29 released", x.isOpen(1), false);
        Checks.due("P29 after a released one", x.isOpen(2), true);
        x.pass(1);
        Checks.due("P29 ended", x.isOpen(0), false);
        x.pass(1);
        Checks.due("P29 the last day", x.isOpen(2), true);
        x.pass(1);
        Checks.due("P29 all ended", x.isOpen(2), false);
    }

    private static void holdsOn() {
        for (int holds : SOME_HOLDS) {
            InodeCouncil x = Checks.made(Scenes.then(Scenes.holds(holds), y -> y.createFile(0)));
            Checks.due("P30 of " + holds, x.holdsOn(0), holds);
            Checks.due("P30 of " + holds + ", other file", x.holdsOn(1), 0);
            x.pass(8);
            Checks.due("P30 of " + holds + ", the last day", x.holdsOn(0), holds);
            x.pass(1);
            Checks.due("P30 of " + holds + ", ended", x.holdsOn(0), 0);
        }
        InodeCouncil released = Checks.made(unlinked(Scenes.holds(30)));
        for (int hold = 0; hold < 30; hold++) {
            released.release(hold);
            Checks.due("P30 released", released.holdsOn(0), 29 - hold);
        }
        Checks.due("P30 gone", released.doesExist(0), false);
    }

    // "if no hold is open"
    private static void nextEndNone() {
        Checks.refuses("P31 none opened", Thrown.ELEMENT, Scenes.files(1), x -> x.nextEnd());
        Checks.refuses("P31 all ended", Thrown.ELEMENT,
                Scenes.then(Scenes.holds(30), x -> x.pass(9)), x -> x.nextEnd());
        Checks.refuses("P31 released", Thrown.ELEMENT,
                Scenes.then(Scenes.holds(1), x -> x.release(0)), x -> x.nextEnd());
        Checks.due("P31 the last day", Checks.made(Scenes.then(Scenes.holds(30), x -> x.pass(8)))
                .nextEnd(), 0);
    }

    // "the open hold that ends first"
    private static void nextEndFirst() {
        Checks.due("P31 one", Checks.made(ends(99)).nextEnd(), 0);
        Checks.due("P31 the first", Checks.made(ends(1, 2, 3)).nextEnd(), 0);
        Checks.due("P31 the last", Checks.made(ends(3, 2, 1)).nextEnd(), 2);
        Checks.due("P31 between", Checks.made(ends(99, 1, 99)).nextEnd(), 1);
        InodeCouncil x = Checks.made(Scenes.then(ends(10), y -> y.pass(8)));
        x.openHold(0, 1);
        Checks.due("P31 fewer days, sooner", x.nextEnd(), 1);
        InodeCouncil later = Checks.made(Scenes.then(ends(10), y -> y.pass(8)));
        later.openHold(0, 3);
        Checks.due("P31 fewer days, but later", later.nextEnd(), 0);
        InodeCouncil thirty = Checks.made(Scenes.holds(29));
        thirty.openHold(0, 8);
        Checks.due("P31 the 30th", thirty.nextEnd(), 29);
    }

    // "of several, the one with the lowest number"
    private static void nextEndOfSeveral() {
        InodeCouncil x = Checks.made(Scenes.holds(30));
        for (int hold = 0; hold < 30; hold++) {
            Checks.due("P31 lowest", x.nextEnd(), hold);
            x.release(hold);
        }
        InodeCouncil days = Checks.made(Scenes.then(ends(10), y -> y.pass(8)));
        days.openHold(0, 2);
        Checks.due("P31 the same day", days.nextEnd(), 0);
        Checks.due("P31 the lowest of the first", Checks.made(ends(9, 2, 5, 2)).nextEnd(), 1);
    }

    // "the number of days, 1 to 99"
    private static void passDays() {
        Checks.bounds("P32 days", Thrown.ARGUMENT, 1, 99, Scenes.NEW,
                (x, days) -> x.pass(days) + " " + x.day(), days -> "0 " + days);
        Checks.bounds("P32 days on day 9900", Thrown.ARGUMENT, 1, 99, Scenes.day(9900),
                (x, days) -> x.pass(days) + " " + x.day(), days -> "0 " + (9900 + days));
    }

    // "or the day would be greater than 9999"
    private static void passLastDay() {
        Checks.due("P32 99 to day 9999", Checks.made(Scenes.day(9900)).pass(99), 0);
        Checks.refuses("P32 99 to day 10000", Thrown.STATE, Scenes.day(9901), x -> x.pass(99));
        Checks.due("P32 98 to day 9999", Checks.made(Scenes.day(9901)).pass(98), 0);
        Checks.due("P32 1 to day 9998", Checks.made(Scenes.day(9997)).pass(1), 0);
        Checks.due("P32 1 to day 9999", Checks.made(Scenes.day(9998)).pass(1), 0);
        Checks.refuses("P32 2 to day 10000", Thrown.STATE, Scenes.day(9998), x -> x.pass(2));
        Checks.refuses("P32 1 to day 10000", Thrown.STATE, Scenes.day(9999), x -> x.pass(1));
        Checks.refuses("P32 99 to day 10098", Thrown.STATE, Scenes.day(9999), x -> x.pass(99));
        Checks.refuses("P32 1 to day 10000 with holds", Thrown.STATE,
                Scenes.then(Scenes.day(9999), unlinked(Scenes.holds(2))), x -> x.pass(1));
    }

    // "if a transaction is open"
    private static void passRefused() {
        Checks.refuses("P32 begun, 1", Thrown.STATE, Scenes.begun(Scenes.holds(2)), x -> x.pass(1));
        Checks.refuses("P32 begun, 99", Thrown.STATE, Scenes.begun(Scenes.holds(2)),
                x -> x.pass(99));
        Checks.refuses("P32 begun, too late", Thrown.STATE, Scenes.begun(Scenes.day(9999)),
                x -> x.pass(1));
        InodeCouncil x = Checks.made(Scenes.begun(Scenes.holds(2)));
        x.commit();
        Checks.due("P32 committed", x.pass(8), 0);
        x.begin();
        x.crash();
        Checks.due("P32 crashed", x.pass(1), 2);
    }

    // "the number of holds that end"
    private static void passEnds() {
        for (int holds : SOME_HOLDS) {
            Checks.due("P32 none of " + holds, Checks.made(Scenes.holds(holds)).pass(8), 0);
            Checks.due("P32 all of " + holds, Checks.made(Scenes.holds(holds)).pass(9), holds);
            Checks.due("P32 all of " + holds + ", later", Checks.made(Scenes.holds(holds)).pass(10),
                    holds);
        }
        InodeCouncil x = Checks.made(ends(1, 2, 2, 3));
        Checks.due("P32 first", x.pass(1), 1);
        Checks.due("P32 two at once", x.pass(1), 2);
        Checks.due("P32 last", x.pass(1), 1);
        Checks.due("P32 none left", x.pass(1), 0);
        InodeCouncil over = Checks.made(ends(1, 2, 2, 4));
        Checks.due("P32 over two ends", over.pass(3), 3);
        Checks.due("P32 a released one", Checks.made(Scenes.then(ends(1, 1), y -> y.release(0)))
                .pass(1), 1);
    }

    /** The holds that end are told, and not the files that are gone. */
    private static void passEndsFiles() {
        InodeCouncil x = Checks.made(Scenes.then(Scenes.files(3), y -> {
            Scenes.fill(y, 0, 48);
            y.openHold(0, 2);
            y.openHold(0, 2);
            y.openHold(1, 2);
            y.openHold(2, 3);
            y.unlink(0);
            y.unlink(2);
        }));
        Checks.due("P32 three of two files", x.pass(2), 3);
        Checks.due("P5 without links", x.doesExist(0), false);
        Checks.due("P5 with a link", x.doesExist(1), true);
        Checks.due("P5 held for a day more", x.doesExist(2), true);
        Checks.due("P15 then", x.free(), 32);
        Checks.due("P32 the last one", x.pass(1), 1);
        Checks.due("P5 then", x.doesExist(2), false);
        Checks.due("P15 at last", x.free(), 48);
        InodeCouncil linkedTwice = Checks.made(Scenes.then(Scenes.holds(1), y -> y.link(0)));
        linkedTwice.pass(9);
        Checks.due("P5 with two links", linkedTwice.doesExist(0), true);
    }

    // "the number of days that have passed"
    private static void day() {
        for (int day : new int[] {0, 1, 99, 100, 9998, 9999}) {
            Checks.due("P33 day " + day, Checks.made(Scenes.day(day)).day(), day);
        }
        InodeCouncil x = Checks.made(Scenes.begun(Scenes.day(5)));
        x.crash();
        Checks.due("P33 crashed", x.day(), 5);
    }
}
