/** Promises 21 to 26 at their boundaries. */
public final class SnapshotsEdgesTest {
    private static final int[] SOME_SNAPSHOTS = {0, 1, 2, 8, 30};

    public static void main(String[] args) {
        ranks();
        keptAtATime();
        takenInAll();
        takeSnapshotInTransaction();
        filesThatExist();
        snapshotNumbers();
        isKept();
        readFromFiles();
        readFromPlaces();
        readFromRefused();
        thinNumbers();
        thinAndNextToDrop();
        leastRank();
        nextToDropNone();
        thinInTransaction();
        restoreFiles();
        restoreCounts();
        restoreKinds();
        restoreSharesBlocks();
        restoreRefused();
        restoreQuota();
        restoreQuotaOfOthers();
        restoreNeedsNoFreeBlock();
        Checks.finish("SnapshotsEdgesTest");
    }

    // "the rank, 0 to 9"
    private static void ranks() {
        Checks.bounds("P21 rank", Thrown.ARGUMENT, 0, 9, Scenes.NEW,
                (x, rank) -> x.takeSnapshot(rank), rank -> 0);
        Checks.bounds("P21 next rank", Thrown.ARGUMENT, 0, 9, Scenes.snapshots(7),
                (x, rank) -> x.takeSnapshot(rank), rank -> 7);
    }

    // "8 snapshots are kept"
    private static void keptAtATime() {
        for (int kept : new int[] {0, 1, 6, 7}) {
            Checks.due("P21 with " + kept + " kept",
                    Checks.made(Scenes.snapshots(kept)).takeSnapshot(0), kept);
        }
        Checks.Scene eight = Scenes.snapshots(8);
        Checks.refuses("P21 with 8 kept", Thrown.STATE, eight, x -> x.takeSnapshot(9));
        Checks.refuses("P21 none thinned", Thrown.STATE, Scenes.then(eight, x -> x.thin(8)),
                x -> x.takeSnapshot(9));
        Checks.due("P21 one thinned", Checks.made(Scenes.then(eight, x -> x.thin(7)))
                .takeSnapshot(9), 8);
        Checks.refuses("P21 one thinned, one taken", Thrown.STATE, Scenes.then(eight, x -> {
            x.thin(7);
            x.takeSnapshot(9);
        }), x -> x.takeSnapshot(9));
    }

    // "or there have been 30"
    private static void takenInAll() {
        for (int taken : new int[] {8, 9, 28, 29}) {
            Checks.Scene scene = Scenes.then(Scenes.snapshots(taken), x -> x.thin(7));
            Checks.due("P21 after " + taken, Checks.made(scene).takeSnapshot(0), taken);
        }
        for (int kept : new int[] {8, 7, 0}) {
            Checks.refuses("P21 after 30, " + kept + " kept", Thrown.STATE,
                    Scenes.then(Scenes.snapshots(30), x -> x.thin(kept)), x -> x.takeSnapshot(0));
        }
    }

    // "if a transaction is open"
    private static void takeSnapshotInTransaction() {
        for (int kept : new int[] {0, 7, 8}) {
            Checks.refuses("P21 begun, " + kept + " kept", Thrown.STATE,
                    Scenes.begun(Scenes.snapshots(kept)), x -> x.takeSnapshot(0));
        }
        InodeCouncil x = Checks.made(Scenes.begun(Scenes.snapshots(0)));
        x.commit();
        Checks.due("P21 committed", x.takeSnapshot(0), 0);
        x.begin();
        x.crash();
        Checks.due("P21 crashed", x.takeSnapshot(0), 1);
    }

    // "It has the places of all files that existed when it was taken."
    private static void filesThatExist() {
        InodeCouncil x = Checks.made(Scenes.files(40));
        for (int file : new int[] {0, 1, 2, 39}) {
            x.write(file, 15, 100 + file);
        }
        x.unlink(0);
        x.openHold(1, 1);
        x.unlink(1);
        x.takeSnapshot(0);
        Checks.due("P23 gone", Checks.answer(x, y -> y.readFrom(0, 0, 15)),
                Thrown.ELEMENT.getName());
        Checks.due("P23 held", x.readFrom(0, 1, 15), 101);
        Checks.due("P23 with links", x.readFrom(0, 2, 15), 102);
        Checks.due("P23 the last file", x.readFrom(0, 39, 15), 139);
        Checks.due("P26 a file without blocks", x.restore(0, 3), 0);
        x.pass(1);
        Checks.due("P23 held then, gone now", x.readFrom(0, 1, 15), 101);
        Checks.due("P21 without files", new InodeCouncil().takeSnapshot(0), 0);
        InodeCouncil back = Checks.made(Scenes.begun(Scenes.files(1)));
        back.createFile(0);
        back.crash();
        back.takeSnapshot(0);
        back.createFile(0);
        Checks.due("P26 a file of a number taken back", Checks.answer(back, y -> y.restore(0, 1)),
                Thrown.ELEMENT.getName());
    }

    // "if there is no such snapshot", "if there has been no such snapshot"
    private static void snapshotNumbers() {
        for (int taken : SOME_SNAPSHOTS) {
            String of = " of " + taken + ", snapshot";
            Checks.Scene scene = Scenes.snapshots(taken);
            Checks.bounds("P22" + of, Thrown.INDEX, 0, taken - 1, scene,
                    (x, snapshot) -> x.isKept(snapshot), snapshot -> snapshot >= taken - 8);
            Checks.bounds("P23" + of, Thrown.INDEX, 0, taken - 1, scene,
                    (x, snapshot) -> x.readFrom(snapshot, 0, 15),
                    snapshot -> snapshot >= taken - 8 ? 15 : Thrown.ELEMENT.getName());
            Checks.bounds("P26" + of, Thrown.INDEX, 0, taken - 1, scene,
                    (x, snapshot) -> x.restore(snapshot, 0),
                    snapshot -> snapshot >= taken - 8 ? 0 : Thrown.ELEMENT.getName());
        }
    }

    private static void isKept() {
        InodeCouncil x = Checks.made(Scenes.snapshots(8));
        x.thin(8);
        Checks.due("P22 none dropped", x.isKept(0), true);
        x.thin(7);
        Checks.due("P22 the first dropped", x.isKept(0), false);
        Checks.due("P22 the second not", x.isKept(1), true);
        x.thin(1);
        Checks.due("P22 the last but one dropped", x.isKept(6), false);
        Checks.due("P22 the last not", x.isKept(7), true);
        x.thin(0);
        Checks.due("P22 all dropped", x.isKept(7), false);
        x.takeSnapshot(0);
        Checks.due("P22 a new one", x.isKept(8), true);
        Checks.due("P22 the one that had its row", x.isKept(0), false);
    }

    // "or there is no such file or place"
    private static void readFromFiles() {
        for (int files : new int[] {0, 1, 2, 40}) {
            Checks.Scene scene = Scenes.then(Scenes.files(files), x -> {
                for (int file = 0; file < files; file++) {
                    x.write(file, 0, 500 + file);
                }
                x.takeSnapshot(0);
            });
            Checks.bounds("P23 of " + files + " files, file", Thrown.INDEX, 0, files - 1, scene,
                    (x, file) -> x.readFrom(0, file, 0), file -> 500 + file);
        }
    }

    // "the place, 0 to 15"
    private static void readFromPlaces() {
        Checks.bounds("P23 place", Thrown.INDEX, 0, 15, Scenes.snapshots(1),
                (x, place) -> x.readFrom(0, 0, place), place -> place);
        Checks.bounds("P23 place of what has changed", Thrown.INDEX, 0, 15,
                Scenes.then(Scenes.snapshots(1), x -> {
                    for (int place = 0; place < 16; place++) {
                        x.write(0, place, 999);
                    }
                }), (x, place) -> x.readFrom(0, 0, place), place -> place);
    }

    // "if the snapshot is not kept, the file was not in it, or there was a hole"
    private static void readFromRefused() {
        Checks.Scene ends = Scenes.then(Scenes.snapshots(0), x -> {
            x.punch(0, 0);
            x.punch(0, 15);
            x.takeSnapshot(3);
            x.createFile(0);
            x.write(0, 0, 1);
            x.write(0, 15, 1);
            x.write(1, 1, 1);
        });
        Checks.refuses("P23 hole at 0", Thrown.ELEMENT, ends, x -> x.readFrom(0, 0, 0));
        Checks.refuses("P23 hole at 15", Thrown.ELEMENT, ends, x -> x.readFrom(0, 0, 15));
        Checks.due("P23 beside a hole", Checks.made(ends).readFrom(0, 0, 1), 1);
        Checks.due("P23 beside a hole, 14", Checks.made(ends).readFrom(0, 0, 14), 14);
        Checks.refuses("P23 a later file", Thrown.ELEMENT, ends, x -> x.readFrom(0, 1, 1));
        Checks.refuses("P23 an earlier file", Thrown.ELEMENT, Scenes.then(Scenes.files(1), x -> {
            x.write(0, 1, 1);
            x.takeSnapshot(0);
            x.thin(0);
            x.unlink(0);
            x.takeSnapshot(0);
        }), x -> x.readFrom(1, 0, 1));
        Checks.refuses("P23 not kept", Thrown.ELEMENT, Scenes.then(ends, x -> x.thin(0)),
                x -> x.readFrom(0, 0, 1));
        Checks.refuses("P23 not kept, another is", Thrown.ELEMENT, Scenes.then(ends, x -> {
            x.takeSnapshot(4);
            x.thin(1);
        }), x -> x.readFrom(0, 0, 1));
    }

    // "how many are to be left, 0 to 8"
    private static void thinNumbers() {
        Checks.bounds("P24 of 8, count", Thrown.ARGUMENT, 0, 8, Scenes.snapshots(8),
                (x, count) -> x.thin(count), count -> 8 - count);
        Checks.bounds("P24 of none, count", Thrown.ARGUMENT, 0, 8, Scenes.NEW,
                (x, count) -> x.thin(count), count -> 0);
        for (int kept = 0; kept <= 8; kept++) {
            for (int count = 0; count <= 8; count++) {
                InodeCouncil x = Checks.made(Scenes.snapshots(kept));
                Checks.due("P24 from " + kept + " to " + count, x.thin(count),
                        Math.max(0, kept - count));
                Checks.due("P24 from " + kept + " to " + count + ", left", x.thin(0),
                        Math.min(kept, count));
            }
        }
    }

    private static Checks.Scene ranked(int... ranks) {
        return x -> {
            for (int rank : ranks) {
                x.takeSnapshot(rank);
            }
        };
    }

    // "always the one with the least rank, of several the oldest one"
    private static void thinAndNextToDrop() {
        dropsInOrder(ranked(7), 0);
        dropsInOrder(ranked(0, 0, 0, 0, 0, 0, 0, 0), 0, 1, 2, 3, 4, 5, 6, 7);
        dropsInOrder(ranked(9, 8, 7, 6, 5, 4, 3, 2), 7, 6, 5, 4, 3, 2, 1, 0);
        dropsInOrder(ranked(2, 3, 4, 5, 6, 7, 8, 9), 0, 1, 2, 3, 4, 5, 6, 7);
        dropsInOrder(ranked(9, 0, 9, 0, 9, 0, 9, 0), 1, 3, 5, 7, 0, 2, 4, 6);
        dropsInOrder(ranked(0, 9), 0, 1);
        dropsInOrder(ranked(9, 0), 1, 0);
        dropsInOrder(ranked(4, 4, 3), 2, 0, 1);
        dropsInOrder(Scenes.then(ranked(5, 5, 5, 5, 5, 5, 5, 5), x -> {
            x.thin(6);
            x.takeSnapshot(5);
            x.takeSnapshot(4);
        }), 9, 2, 3, 4, 5, 6, 7, 8);
    }

    private static void dropsInOrder(Checks.Scene scene, int... order) {
        InodeCouncil x = Checks.made(scene);
        for (int dropped = 0; dropped < order.length; dropped++) {
            Checks.due("P25 next", x.nextToDrop(), order[dropped]);
            Checks.due("P24 one", x.thin(order.length - dropped - 1), 1);
            Checks.due("P22 dropped", x.isKept(order[dropped]), false);
            if (dropped + 1 < order.length) {
                Checks.due("P22 the next is kept", x.isKept(order[dropped + 1]), true);
            }
        }
    }

    /** More than one at once, so that the same ones go as one by one. */
    private static void leastRank() {
        InodeCouncil x = Checks.made(ranked(9, 0, 9, 0, 9, 0, 9, 0));
        Checks.due("P24 five", x.thin(3), 5);
        boolean[] kept = {false, false, true, false, true, false, true, false};
        for (int snapshot = 0; snapshot < 8; snapshot++) {
            Checks.due("P22 of five, " + snapshot, x.isKept(snapshot), kept[snapshot]);
        }
    }

    // "if none is kept"
    private static void nextToDropNone() {
        Checks.refuses("P25 none taken", Thrown.ELEMENT, Scenes.NEW, x -> x.nextToDrop());
        Checks.refuses("P25 none kept", Thrown.ELEMENT,
                Scenes.then(Scenes.snapshots(8), x -> x.thin(0)), x -> x.nextToDrop());
        Checks.due("P25 one kept", Checks.made(Scenes.snapshots(1)).nextToDrop(), 0);
        Checks.due("P25 the 30th", Checks.made(Scenes.then(Scenes.snapshots(30), x -> x.thin(1)))
                .nextToDrop(), 29);
        Checks.due("P25 begun", Checks.made(Scenes.begun(Scenes.snapshots(2))).nextToDrop(), 0);
    }

    private static void thinInTransaction() {
        for (int count : new int[] {0, 7, 8}) {
            Checks.refuses("P24 begun, " + count, Thrown.STATE, Scenes.begun(Scenes.snapshots(8)),
                    x -> x.thin(count));
            Checks.refuses("P24 begun, none kept, " + count, Thrown.STATE, Scenes.begun(Scenes.NEW),
                    x -> x.thin(count));
        }
        InodeCouncil x = Checks.made(Scenes.begun(Scenes.snapshots(8)));
        x.commit();
        Checks.due("P24 committed", x.thin(7), 1);
        x.begin();
        x.crash();
        Checks.due("P24 crashed", x.thin(0), 7);
    }

    // "or there is no such file"
    private static void restoreFiles() {
        for (int files : new int[] {0, 1, 2, 40}) {
            Checks.Scene scene = Scenes.then(Scenes.files(files), x -> {
                x.takeSnapshot(0);
                for (int file = 0; file < files; file++) {
                    x.write(file, 15, 1);
                }
            });
            Checks.bounds("P26 of " + files + " files, file", Thrown.INDEX, 0, files - 1, scene,
                    (x, file) -> x.restore(0, file) + " " + x.blocksOf(file), file -> "1 0");
        }
    }

    // "the number of places that have another block, or a block only before or only afterwards"
    private static void restoreCounts() {
        for (int places : new int[] {0, 1, 2, 15, 16}) {
            InodeCouncil written = Checks.made(Scenes.snapshots(1));
            InodeCouncil punched = Checks.made(Scenes.snapshots(1));
            InodeCouncil filled = Checks.made(Scenes.files(1));
            filled.takeSnapshot(0);
            for (int place = 0; place < places; place++) {
                written.write(0, 15 - place, 900);
                punched.punch(0, 15 - place);
                filled.write(0, 15 - place, 900);
            }
            Checks.due("P26 another block, " + places, written.restore(0, 0), places);
            Checks.due("P26 only afterwards, " + places, punched.restore(0, 0), places);
            Checks.due("P26 only before, " + places, filled.restore(0, 0), places);
            for (int place = 0; place < 16; place++) {
                Checks.due("P26 block", written.blockAt(0, place), place);
                Checks.due("P26 value", punched.read(0, place), place);
            }
            Checks.due("P26 all holes", filled.blocksOf(0), 0);
            Checks.due("P26 all free", filled.free(), 64);
            Checks.due("P26 again, " + places, written.restore(0, 0), 0);
        }
    }

    private static void restoreKinds() {
        InodeCouncil x = Checks.made(Scenes.files(1));
        x.write(0, 0, 10);
        x.write(0, 1, 11);
        x.write(0, 2, 12);
        x.takeSnapshot(0);
        x.write(0, 0, 20);
        x.punch(0, 1);
        x.write(0, 3, 23);
        Checks.due("P26 one of each kind", x.restore(0, 0), 3);
        x.punch(0, 2);
        x.takeSnapshot(1);
        x.write(0, 2, 12);
        Checks.due("P26 to the earlier", x.restore(0, 0), 1);
        Checks.due("P26 to the later", x.restore(1, 0), 1);
        Checks.due("P26 the later, a hole", x.blocksOf(0), 2);
    }

    // "it uses the same blocks as the snapshot"
    private static void restoreSharesBlocks() {
        InodeCouncil x = Checks.made(Scenes.snapshots(1));
        x.punch(0, 15);
        x.write(0, 0, 900);
        x.restore(0, 0);
        Checks.due("P26 users of the punched", x.usersOf(15), 2);
        Checks.due("P26 users of the written", x.usersOf(0), 2);
        Checks.due("P26 users of what was left", x.usersOf(7), 2);
        Checks.due("P26 what it had is free", x.usersOf(16), 0);
        Checks.due("P26 shared then", x.write(0, 15, 1), 16);
        x.restore(0, 0);
        x.thin(0);
        Checks.due("P26 its own then", x.write(0, 15, 1), 15);
        Checks.due("P37 entries of the calls, none of restore", x.journalSize(), 1 + 16 + 4);
    }

    // "if the snapshot is not kept, or the file was not in it", "if a transaction is open, or the
    // file has no links"
    private static void restoreRefused() {
        Checks.Scene scene = Scenes.then(Scenes.snapshots(1), x -> {
            x.createFile(0);
            x.punch(0, 3);
        });
        Checks.refuses("P26 not in it", Thrown.ELEMENT, scene, x -> x.restore(0, 1));
        Checks.refuses("P26 not kept", Thrown.ELEMENT, Scenes.then(scene, x -> x.thin(0)),
                x -> x.restore(0, 0));
        Checks.refuses("P26 begun", Thrown.STATE, Scenes.begun(scene), x -> x.restore(0, 0));
        Checks.refuses("P26 gone", Thrown.STATE, Scenes.then(scene, x -> x.unlink(0)),
                x -> x.restore(0, 0));
        Checks.refuses("P26 held", Thrown.STATE, Scenes.then(scene, x -> {
            x.openHold(0, 1);
            x.unlink(0);
        }), x -> x.restore(0, 0));
        Checks.due("P26 one link", Checks.made(Scenes.then(scene, x -> {
            x.link(0);
            x.unlink(0);
        })).restore(0, 0), 1);
        InodeCouncil x = Checks.made(Scenes.begun(scene));
        x.commit();
        Checks.due("P26 committed", x.restore(0, 0), 1);
    }

    /** A quota of 3, file 0 with this many blocks in snapshot 0 and none now, and file 1. */
    private static Checks.Scene quotaOf3(int inSnapshot, int inOtherFile) {
        return x -> {
            x.addOwner(3);
            x.createFile(0);
            x.createFile(0);
            Scenes.fill(x, 0, inSnapshot);
            x.takeSnapshot(0);
            for (int place = 0; place < inSnapshot; place++) {
                x.punch(0, place);
            }
            Scenes.fill(x, 1, inOtherFile);
        };
    }

    // "if more blocks would count for the owner than the quota"
    private static void restoreQuota() {
        for (int inSnapshot = 0; inSnapshot <= 3; inSnapshot++) {
            for (int inOther = 0; inOther <= 3; inOther++) {
                Checks.Scene scene = quotaOf3(inSnapshot, inOther);
                String what = "P26 " + inSnapshot + " beside " + inOther;
                if (inSnapshot + inOther > 3) {
                    Checks.refuses(what, Thrown.UNSUPPORTED, scene, x -> x.restore(0, 0));
                } else {
                    InodeCouncil x = Checks.made(scene);
                    Checks.due(what, x.restore(0, 0), inSnapshot);
                    Checks.due(what + ", used", x.usedBy(0), inSnapshot + inOther);
                }
            }
        }
        InodeCouncil anew = Checks.made(quotaOf3(3, 0));
        Scenes.fill(anew, 0, 3);
        Checks.due("P26 what the file had does not count", anew.restore(0, 0), 3);
        Checks.due("P26 used", anew.usedBy(0), 3);
    }

    private static void restoreQuotaOfOthers() {
        Checks.Scene held = Scenes.then(quotaOf3(2, 2), x -> {
            x.openHold(1, 2);
            x.unlink(1);
            x.pass(1);
        });
        Checks.refuses("P26 a held file counts", Thrown.UNSUPPORTED, held, x -> x.restore(0, 0));
        Checks.due("P26 its hold has ended", Checks.made(Scenes.then(held, x -> x.pass(1)))
                .restore(0, 0), 2);
        InodeCouncil other = Checks.made(quotaOf3(3, 0));
        other.addOwner(3);
        other.createFile(1);
        Scenes.fill(other, 2, 3);
        Checks.due("P26 another owner's file", other.restore(0, 0), 3);
        InodeCouncil later = new InodeCouncil();
        later.addOwner(64);
        later.createFile(0);
        Scenes.fill(later, 0, 16);
        later.addOwner(1);
        later.createFile(1);
        later.write(1, 0, 1);
        later.takeSnapshot(0);
        later.punch(1, 0);
        Checks.due("P26 another owner's file that has the first blocks", later.restore(0, 1), 1);
        Checks.due("P26 another owner's file, used", later.usedBy(1), 1);
        InodeCouncil promised = Checks.made(quotaOf3(3, 0));
        promised.promise(0, 61);
        Checks.due("P26 promised blocks", promised.restore(0, 0), 3);
        Checks.due("P26 promised blocks stay", promised.promisedTo(0), 61);
    }

    private static void restoreNeedsNoFreeBlock() {
        Checks.Scene none = Scenes.then(Scenes.snapshots(1), x -> {
            x.punch(0, 15);
            x.createFile(0);
            x.createFile(0);
            x.createFile(0);
            Scenes.fill(x, 1, 48);
        });
        InodeCouncil x = Checks.made(none);
        Checks.due("P26 none is free", x.free(), 0);
        Checks.due("P26 without a free block", x.restore(0, 0), 1);
        InodeCouncil others = Checks.made(Scenes.then(Scenes.snapshots(1), y -> {
            y.addOwner(1);
            y.promise(1, 48);
            y.punch(0, 15);
        }));
        Checks.due("P26 all are promised to another", others.restore(0, 0), 1);
    }
}
