import java.util.ArrayList;
import java.util.HashMap;
import java.util.HashSet;
import java.util.List;
import java.util.Map;
import java.util.NoSuchElementException;
import java.util.Set;
import java.util.TreeMap;
import java.util.TreeSet;

/**
 * The document in its plainest form, to compare the class with: nothing is kept that can be
 * counted anew, and a transaction keeps a copy of everything. RandomRunsTest gives each call a
 * number, the place of its name in CALLS.
 */
final class Model {
    static final String[] CALLS = {"addOwner", "createFile", "fileCount", "doesExist", "linksOf",
        "link", "unlink", "write", "punch", "read", "blockAt", "blocksOf", "usedBy", "free",
        "usersOf", "usersByWalk", "promise", "promisedTo", "giveBack", "takeSnapshot", "isKept",
        "readFrom", "thin", "nextToDrop", "restore", "openHold", "release", "isOpen", "holdsOn",
        "nextEnd", "pass", "day", "begin", "commit", "crash", "journalSize", "entryKind",
        "meanUsers", "heldShare", "isConsistent", "writeFile", "lineAt"};

    private record Snapshot(int rank, Map<Integer, Map<Integer, Integer>> files) {
    }

    private record Hold(int file, int end) {
    }

    private final List<Integer> quotas = new ArrayList<>();
    private final List<Snapshot> snapshots = new ArrayList<>();
    private final Set<Integer> kept = new HashSet<>();
    private final List<Hold> holds = new ArrayList<>();
    private final Set<Integer> open = new HashSet<>();
    private int day = 0;
    private String line = "";
    // What a crash takes back.
    private List<Integer> owners = new ArrayList<>();
    private List<Integer> links = new ArrayList<>();
    private List<Map<Integer, Integer>> places = new ArrayList<>();
    private Map<Integer, Integer> values = new HashMap<>();
    private int[] promised = new int[4];
    private String journal = "";
    private Model begun = null;

    Object call(int call, int a, int b, int c) {
        return switch (CALLS[call]) {
            case "addOwner" -> addOwner(a);
            case "createFile" -> createFile(a);
            case "fileCount" -> links.size();
            case "doesExist" -> exists(file(a));
            case "linksOf" -> links.get(file(a));
            case "link" -> link(a);
            case "unlink" -> unlink(a);
            case "write" -> write(a, b, c);
            case "punch" -> punch(a, b);
            case "read" -> values.get(block(a, b));
            case "blockAt" -> block(a, b);
            case "blocksOf" -> places.get(file(a)).size();
            case "usedBy" -> blocksOf(owner(a), -1).size();
            case "free" -> free().size();
            case "usersOf", "usersByWalk" -> usersOf(index(a, 64));
            case "promise" -> promise(a, b);
            case "promisedTo" -> promised[owner(a)];
            case "giveBack" -> giveBack(a);
            case "takeSnapshot" -> takeSnapshot(a);
            case "isKept" -> kept.contains(index(a, snapshots.size()));
            case "readFrom" -> readFrom(a, b, c);
            case "thin" -> thin(a);
            case "nextToDrop" -> nextToDrop();
            case "restore" -> restore(a, b);
            case "openHold" -> openHold(a, b);
            case "release" -> release(a);
            case "isOpen" -> open.contains(index(a, holds.size()));
            case "holdsOn" -> holdsOn(file(a));
            case "nextEnd" -> nextEnd();
            case "pass" -> pass(a);
            case "day" -> day;
            case "begin" -> begin();
            case "commit" -> commit();
            case "crash" -> crash();
            case "journalSize" -> journal.length();
            case "entryKind" -> journal.charAt(index(a, journal.length()));
            case "meanUsers" -> meanUsers();
            case "heldShare" -> heldShare();
            case "isConsistent" -> true;
            case "writeFile" -> writeFile(a);
            default -> line.charAt(index(a, line.length()));
        };
    }

    // What the random runs choose from: number is turned into one that the model knows, if any.

    int someOwner(int number) {
        return quotas.isEmpty() ? number : number % quotas.size();
    }

    int someFile(int number, boolean withLinks) {
        for (int tries = 0; tries < links.size(); tries++) {
            int file = (number + tries) % links.size();
            if (!withLinks || links.get(file) > 0) {
                return file;
            }
        }
        return number;
    }

    int someSnapshot(int number) {
        return kept.isEmpty() ? number : List.copyOf(new TreeSet<>(kept)).get(number % kept.size());
    }

    int someHold(int number) {
        return open.isEmpty() ? number : List.copyOf(new TreeSet<>(open)).get(number % open.size());
    }

    private static int index(int number, int size) {
        if (number < 0 || number >= size) {
            throw new IndexOutOfBoundsException();
        }
        return number;
    }

    private static void argument(boolean holds) {
        if (!holds) {
            throw new IllegalArgumentException();
        }
    }

    private static void state(boolean holds) {
        if (!holds) {
            throw new IllegalStateException();
        }
    }

    private static void element(boolean holds) {
        if (!holds) {
            throw new NoSuchElementException();
        }
    }

    private static void supported(boolean holds) {
        if (!holds) {
            throw new UnsupportedOperationException();
        }
    }

    private int file(int file) {
        return index(file, links.size());
    }

    private int owner(int owner) {
        return index(owner, quotas.size());
    }

    private int holdsOn(int file) {
        int total = 0;
        for (int hold : open) {
            total += holds.get(hold).file() == file ? 1 : 0;
        }
        return total;
    }

    private boolean exists(int file) {
        return links.get(file) > 0 || holdsOn(file) > 0;
    }

    private int usersOf(int block) {
        int users = 0;
        for (Map<Integer, Integer> file : places) {
            users += (int) file.values().stream().filter(b -> b == block).count();
        }
        for (int number : kept) {
            for (Map<Integer, Integer> file : snapshots.get(number).files().values()) {
                users += (int) file.values().stream().filter(b -> b == block).count();
            }
        }
        return users;
    }

    private List<Integer> free() {
        List<Integer> free = new ArrayList<>();
        for (int block = 0; block < 64; block++) {
            if (usersOf(block) == 0) {
                free.add(block);
            }
        }
        return free;
    }

    private int promises() {
        return promised[0] + promised[1] + promised[2] + promised[3];
    }

    private Set<Integer> blocksOf(int owner, int exceptFile) {
        Set<Integer> blocks = new HashSet<>();
        for (int file = 0; file < links.size(); file++) {
            if (owners.get(file) == owner && file != exceptFile) {
                blocks.addAll(places.get(file).values());
            }
        }
        return blocks;
    }

    private void clean() {
        for (int file = 0; file < links.size(); file++) {
            if (!exists(file)) {
                places.get(file).clear();
            }
        }
    }

    private int addOwner(int quota) {
        argument(quota >= 0 && quota <= 64);
        state(begun == null && quotas.size() < 4);
        quotas.add(quota);
        return quotas.size() - 1;
    }

    private int createFile(int owner) {
        owner(owner);
        state(links.size() < 40);
        owners.add(owner);
        links.add(1);
        places.add(new TreeMap<>());
        journal += "c";
        return links.size() - 1;
    }

    private int link(int file) {
        int had = links.get(file(file));
        state(had > 0 && had < 9);
        links.set(file, had + 1);
        journal += "l";
        return had + 1;
    }

    private int unlink(int file) {
        int had = links.get(file(file));
        state(had > 0);
        links.set(file, had - 1);
        clean();
        journal += "u";
        return had - 1;
    }

    private int write(int file, int place, int value) {
        file(file);
        index(place, 16);
        argument(value >= 0 && value <= 999);
        state(links.get(file) > 0);
        Integer had = places.get(file).get(place);
        if (had == null || usersOf(had) > 1) {
            int owner = owners.get(file);
            List<Integer> free = free();
            supported(free.size() > promises() - promised[owner]);
            Map<Integer, Integer> after = new TreeMap<>(places.get(file));
            after.put(place, free.get(0));
            Set<Integer> counted = blocksOf(owner, file);
            counted.addAll(after.values());
            supported(counted.size() <= quotas.get(owner));
            places.set(file, after);
            promised[owner] -= promised[owner] > 0 ? 1 : 0;
        }
        int block = places.get(file).get(place);
        values.put(block, value);
        journal += "w";
        return block;
    }

    private int punch(int file, int place) {
        file(file);
        index(place, 16);
        state(links.get(file) > 0 && places.get(file).containsKey(place));
        journal += "h";
        return places.get(file).remove(place);
    }

    private int block(int file, int place) {
        file(file);
        index(place, 16);
        element(places.get(file).containsKey(place));
        return places.get(file).get(place);
    }

    private int promise(int owner, int blocks) {
        owner(owner);
        argument(blocks >= 1 && blocks <= 64);
        supported(free().size() - promises() >= blocks);
        promised[owner] += blocks;
        journal += "p";
        return promised[owner];
    }

    private int giveBack(int owner) {
        int had = promised[owner(owner)];
        state(had > 0);
        promised[owner] = 0;
        journal += "g";
        return had;
    }

    private int takeSnapshot(int rank) {
        argument(rank >= 0 && rank <= 9);
        state(begun == null && kept.size() < 8 && snapshots.size() < 30);
        Map<Integer, Map<Integer, Integer>> files = new HashMap<>();
        for (int file = 0; file < links.size(); file++) {
            if (exists(file)) {
                files.put(file, new TreeMap<>(places.get(file)));
            }
        }
        snapshots.add(new Snapshot(rank, files));
        kept.add(snapshots.size() - 1);
        return snapshots.size() - 1;
    }

    private int readFrom(int snapshot, int file, int place) {
        index(snapshot, snapshots.size());
        file(file);
        index(place, 16);
        element(kept.contains(snapshot));
        Map<Integer, Integer> had = snapshots.get(snapshot).files().get(file);
        element(had != null && had.containsKey(place));
        return values.get(had.get(place));
    }

    private int nextToDrop() {
        element(!kept.isEmpty());
        int next = -1;
        for (int number = 29; number >= 0; number--) {
            if (kept.contains(number) && (next < 0
                    || snapshots.get(number).rank() <= snapshots.get(next).rank())) {
                next = number;
            }
        }
        return next;
    }

    private int thin(int count) {
        argument(count >= 0 && count <= 8);
        state(begun == null);
        int dropped = 0;
        while (kept.size() > count) {
            kept.remove(nextToDrop());
            dropped++;
        }
        return dropped;
    }

    private int restore(int snapshot, int file) {
        index(snapshot, snapshots.size());
        file(file);
        element(kept.contains(snapshot) && snapshots.get(snapshot).files().containsKey(file));
        state(begun == null && links.get(file) > 0);
        Map<Integer, Integer> had = places.get(file);
        Map<Integer, Integer> gets = snapshots.get(snapshot).files().get(file);
        Set<Integer> counted = blocksOf(owners.get(file), file);
        counted.addAll(gets.values());
        supported(counted.size() <= quotas.get(owners.get(file)));
        int changed = 0;
        for (int place = 0; place < 16; place++) {
            changed += java.util.Objects.equals(had.get(place), gets.get(place)) ? 0 : 1;
        }
        places.set(file, new TreeMap<>(gets));
        return changed;
    }

    private int openHold(int file, int days) {
        file(file);
        argument(days >= 1 && days <= 99);
        state(begun == null && exists(file) && holds.size() < 30);
        holds.add(new Hold(file, day + days));
        open.add(holds.size() - 1);
        return holds.size() - 1;
    }

    private int release(int hold) {
        index(hold, holds.size());
        state(begun == null && open.remove(hold));
        clean();
        return exists(holds.get(hold).file()) ? 0 : 1;
    }

    private int nextEnd() {
        element(!open.isEmpty());
        int next = -1;
        for (int hold = 29; hold >= 0; hold--) {
            if (open.contains(hold) && (next < 0 || holds.get(hold).end() <= holds.get(next).end())) {
                next = hold;
            }
        }
        return next;
    }

    private int pass(int days) {
        argument(days >= 1 && days <= 99);
        state(begun == null && day + days <= 9999);
        day += days;
        int before = open.size();
        open.removeIf(hold -> holds.get(hold).end() <= day);
        clean();
        return before - open.size();
    }

    private int begin() {
        state(begun == null);
        begun = new Model();
        begun.takeFrom(this);
        return journal.length();
    }

    private int commit() {
        state(begun != null);
        int made = journal.length() - begun.journal.length();
        begun = null;
        return made;
    }

    private int crash() {
        int before = journal.length();
        if (begun != null) {
            takeFrom(begun);
            begun = null;
        }
        return before - journal.length();
    }

    private void takeFrom(Model other) {
        owners = new ArrayList<>(other.owners);
        links = new ArrayList<>(other.links);
        places = new ArrayList<>();
        for (Map<Integer, Integer> file : other.places) {
            places.add(new TreeMap<>(file));
        }
        values = new HashMap<>(other.values);
        promised = other.promised.clone();
        journal = other.journal;
    }

    private double meanUsers() {
        int users = 0;
        int blocks = 0;
        for (int block = 0; block < 64; block++) {
            users += usersOf(block);
            blocks += usersOf(block) > 0 ? 1 : 0;
        }
        if (blocks == 0) {
            throw new ArithmeticException();
        }
        return (double) users / (double) blocks;
    }

    private float heldShare() {
        int held = 0;
        int files = 0;
        for (int file = 0; file < links.size(); file++) {
            files += exists(file) ? 1 : 0;
            held += holdsOn(file) > 0 ? 1 : 0;
        }
        if (files == 0) {
            throw new ArithmeticException();
        }
        return (float) held / (float) files;
    }

    private int writeFile(int file) {
        line = file(file) + "x" + links.get(file);
        for (Map.Entry<Integer, Integer> place : new TreeMap<>(places.get(file)).entrySet()) {
            line += " " + place.getKey() + ":" + place.getValue();
        }
        return line.length();
    }
}
