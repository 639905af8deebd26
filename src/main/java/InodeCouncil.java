import java.util.Arrays;
import java.util.NoSuchElementException;

/**
 * A keeper of files. Files have links, owners and holes; blocks are shared with snapshots, which
 * are thinned by rule; free blocks are promised ahead of their use; holds keep a file that its
 * owner has deleted; a journal takes back what a crash left half done.
 */
public final class InodeCouncil {
    private static final int BLOCKS = 64;
    private static final int FILES = 40;
    private static final int PLACES = 16;
    private static final int CELLS = FILES * PLACES;
    private static final int OWNERS = 4;
    private static final int MOST_LINKS = 9;
    private static final int LAST_VALUE = 999;
    private static final int LAST_RANK = 9;
    private static final int SNAPSHOTS = 30;
    private static final int KEPT_SNAPSHOTS = 8;
    private static final int HOLDS = 30;
    private static final int MOST_DAYS = 99;
    private static final int LAST_DAY = 9999;
    // An object is used for 512 calls, and a call makes one entry at most.
    private static final int ENTRIES = 512;
    private static final int HOLE = -1;
    private static final int NONE = -1;

    private final State now;
    private final State atBegin;
    private boolean inTransaction;
    private final char[] kinds;
    private int owners;
    private final int[] quotas;
    private final Snapshots snapshots;
    private final Holds holds;
    private int today;
    private final StringBuilder line;
    private final int[] walked;

    /** Creates a keeper without owners and files, whose blocks are free. */
    public InodeCouncil() {
        now = new State();
        atBegin = new State();
        inTransaction = false;
        kinds = new char[ENTRIES];
        owners = 0;
        quotas = new int[OWNERS];
        snapshots = new Snapshots();
        holds = new Holds();
        today = 0;
        line = new StringBuilder();
        walked = new int[BLOCKS];
    }

    // ---- owners, files and writes

    /** Adds an owner with a quota in blocks, 0 to 64; returns the number of the owner. */
    public int addOwner(int quota) throws IllegalArgumentException, IllegalStateException {
        requireWithin(quota, 0, BLOCKS);
        requireNoTransaction();
        if (owners >= OWNERS) {
            throw new IllegalStateException("there are 4 owners");
        }
        int owner = owners;
        quotas[owner] = quota;
        owners = owner + 1;
        return owner;
    }

    /** Creates a file of an owner, with one link and without blocks; returns its number. */
    public int createFile(int owner) throws IndexOutOfBoundsException, IllegalStateException {
        requireOwner(owner);
        if (now.fileTotal() >= FILES) {
            throw new IllegalStateException("there have been 40 files");
        }
        int file = now.addFile(owner);
        note('c');
        return file;
    }

    /** Returns how many files have been created, those that are gone included. */
    public int fileCount() {
        return now.fileTotal();
    }

    /** Returns whether a file exists. */
    public boolean doesExist(int file) throws IndexOutOfBoundsException {
        requireFile(file);
        return now.isAlive(file);
    }

    /** Returns the number of links of a file. */
    public int linksOf(int file) throws IndexOutOfBoundsException {
        requireFile(file);
        return now.linkTotal(file);
    }

    /** Adds a link to a file; returns the number of links. */
    public int link(int file) throws IndexOutOfBoundsException, IllegalStateException {
        requireFile(file);
        requireLinks(file);
        int links = now.linkTotal(file);
        if (links >= MOST_LINKS) {
            throw new IllegalStateException("the file has 9 links");
        }
        now.setLinks(file, links + 1);
        note('l');
        return links + 1;
    }

    /** Takes a link of a file away; returns the number of links that are left. */
    public int unlink(int file) throws IndexOutOfBoundsException, IllegalStateException {
        requireFile(file);
        requireLinks(file);
        int left = now.linkTotal(file) - 1;
        now.setLinks(file, left);
        removeIfAbandoned(file);
        note('u');
        return left;
    }

    /** Writes a value to a place of a file; returns the block that holds it then. */
    public int write(int file, int place, int value) throws IndexOutOfBoundsException,
            IllegalArgumentException, IllegalStateException, UnsupportedOperationException {
        requireFile(file);
        requirePlace(place);
        requireWithin(value, 0, LAST_VALUE);
        requireLinks(file);
        int block = now.blockIn(file, place);
        if (now.userTotal(block) != 1) {
            int owner = now.ownerIn(file);
            requireBlockFor(owner, file, place);
            block = now.takeBlock(owner);
            now.setBlock(file, place, block);
        }
        now.setValue(block, value);
        note('w');
        return block;
    }

    /** Makes a hole at a place of a file; returns the block that held the value. */
    public int punch(int file, int place) throws IndexOutOfBoundsException, IllegalStateException {
        requireFile(file);
        requirePlace(place);
        requireLinks(file);
        int block = now.blockIn(file, place);
        if (block == HOLE) {
            throw new IllegalStateException("there is a hole");
        }
        now.setBlock(file, place, HOLE);
        note('h');
        return block;
    }

    /** Returns the value at a place of a file. */
    public int read(int file, int place) throws IndexOutOfBoundsException, NoSuchElementException {
        return now.valueIn(blockOrThrow(file, place));
    }

    /** Returns the block that holds the value at a place of a file. */
    public int blockAt(int file, int place)
            throws IndexOutOfBoundsException, NoSuchElementException {
        return blockOrThrow(file, place);
    }

    /** Returns how many places of a file have values. */
    public int blocksOf(int file) throws IndexOutOfBoundsException {
        requireFile(file);
        int filled = 0;
        for (int place = 0; place < PLACES; place++) {
            if (now.blockIn(file, place) != HOLE) {
                filled++;
            }
        }
        return filled;
    }

    /** Returns how many blocks count for an owner. */
    public int usedBy(int owner) throws IndexOutOfBoundsException {
        requireOwner(owner);
        return Long.bitCount(now.blocksOfOwner(owner, NONE));
    }

    // ---- blocks and promises

    /** Returns how many blocks are free. */
    public int free() {
        return now.freeTotal();
    }

    /** Returns how many users a block has, as it is kept. */
    public int usersOf(int block) throws IndexOutOfBoundsException {
        requireBlock(block);
        return now.userTotal(block);
    }

    /** Returns the same as usersOf, by walking through all files and all snapshots. */
    public int usersByWalk(int block) throws IndexOutOfBoundsException {
        requireBlock(block);
        walkUsers();
        return walked[block];
    }

    /** Promises more free blocks to an owner; returns how many are promised to the owner. */
    public int promise(int owner, int blocks) throws IndexOutOfBoundsException,
            IllegalArgumentException, UnsupportedOperationException {
        requireOwner(owner);
        requireWithin(blocks, 1, BLOCKS);
        if (blocks > now.freeTotal() - now.promisedInAll()) {
            throw new UnsupportedOperationException("so many more blocks are not free");
        }
        int promised = now.promisedFor(owner) + blocks;
        now.setPromised(owner, promised);
        note('p');
        return promised;
    }

    /** Returns how many blocks are promised to an owner. */
    public int promisedTo(int owner) throws IndexOutOfBoundsException {
        requireOwner(owner);
        return now.promisedFor(owner);
    }

    /** Ends what is promised to an owner; returns how many blocks were promised. */
    public int giveBack(int owner) throws IndexOutOfBoundsException, IllegalStateException {
        requireOwner(owner);
        int promised = now.promisedFor(owner);
        if (promised == 0) {
            throw new IllegalStateException("no blocks were promised");
        }
        now.setPromised(owner, 0);
        note('g');
        return promised;
    }

    // ---- snapshots

    /** Takes a snapshot of all files that exist; returns its number. */
    public int takeSnapshot(int rank) throws IllegalArgumentException, IllegalStateException {
        requireWithin(rank, 0, LAST_RANK);
        requireNoTransaction();
        if (snapshots.keptTotal() >= KEPT_SNAPSHOTS) {
            throw new IllegalStateException("8 snapshots are kept");
        }
        if (snapshots.takenTotal() >= SNAPSHOTS) {
            throw new IllegalStateException("there have been 30 snapshots");
        }
        return snapshots.add(rank, now);
    }

    /** Returns whether a snapshot is kept. */
    public boolean isKept(int snapshot) throws IndexOutOfBoundsException {
        requireSnapshot(snapshot);
        return snapshots.rowOf(snapshot) != NONE;
    }

    /** Returns the value at a place of a file as it was when a snapshot was taken. */
    public int readFrom(int snapshot, int file, int place)
            throws IndexOutOfBoundsException, NoSuchElementException {
        requireSnapshot(snapshot);
        requireFile(file);
        requirePlace(place);
        requireInSnapshot(snapshot, file);
        int block = snapshots.blockIn(snapshot, file, place);
        if (block == HOLE) {
            throw new NoSuchElementException("there was a hole");
        }
        return now.valueIn(block);
    }

    /** Drops snapshots until no more than count are kept; returns how many are dropped. */
    public int thin(int count) throws IllegalArgumentException, IllegalStateException {
        requireWithin(count, 0, KEPT_SNAPSHOTS);
        requireNoTransaction();
        int excess = Math.max(0, snapshots.keptTotal() - count);
        for (int dropped = 0; dropped < excess; dropped++) {
            snapshots.drop(snapshots.leastKept(), now);
        }
        return excess;
    }

    /** Returns the snapshot that would be dropped first. */
    public int nextToDrop() throws NoSuchElementException {
        int snapshot = snapshots.leastKept();
        if (snapshot == NONE) {
            throw new NoSuchElementException("no snapshot is kept");
        }
        return snapshot;
    }

    /** Gives a file the places that it had in a snapshot; returns how many are changed. */
    public int restore(int snapshot, int file) throws IndexOutOfBoundsException,
            NoSuchElementException, IllegalStateException, UnsupportedOperationException {
        requireSnapshot(snapshot);
        requireFile(file);
        requireInSnapshot(snapshot, file);
        requireNoTransaction();
        requireLinks(file);
        int owner = now.ownerIn(file);
        long counted = now.blocksOfOwner(owner, file) | snapshots.blocksInFile(snapshot, file);
        if (Long.bitCount(counted) > quotaOf(owner)) {
            throw new UnsupportedOperationException("more blocks than the quota");
        }
        int changed = 0;
        for (int place = 0; place < PLACES; place++) {
            int block = snapshots.blockIn(snapshot, file, place);
            if (block != now.blockIn(file, place)) {
                now.setBlock(file, place, block);
                changed++;
            }
        }
        return changed;
    }

    // ---- holds and days

    /** Opens a hold on a file for a number of days, 1 to 99; returns the number of the hold. */
    public int openHold(int file, int days) throws IndexOutOfBoundsException,
            IllegalArgumentException, IllegalStateException {
        requireFile(file);
        requireWithin(days, 1, MOST_DAYS);
        requireNoTransaction();
        if (!now.isAlive(file)) {
            throw new IllegalStateException("the file does not exist");
        }
        if (holds.openedTotal() >= HOLDS) {
            throw new IllegalStateException("there have been 30 holds");
        }
        return holds.add(file, today + days);
    }

    /** Releases a hold before its end; returns how many files are gone by this. */
    public int release(int hold) throws IndexOutOfBoundsException, IllegalStateException {
        requireHold(hold);
        requireNoTransaction();
        if (!holds.isStillOpen(hold)) {
            throw new IllegalStateException("the hold is not open");
        }
        return endHold(hold);
    }

    /** Returns whether a hold is open. */
    public boolean isOpen(int hold) throws IndexOutOfBoundsException {
        requireHold(hold);
        return holds.isStillOpen(hold);
    }

    /** Returns how many open holds are on a file. */
    public int holdsOn(int file) throws IndexOutOfBoundsException {
        requireFile(file);
        return holds.openTotal(file);
    }

    /** Returns the open hold that ends first; of several, the one with the lowest number. */
    public int nextEnd() throws NoSuchElementException {
        int hold = holds.firstToEnd();
        if (hold == NONE) {
            throw new NoSuchElementException("no hold is open");
        }
        return hold;
    }

    /** Lets days pass, 1 to 99; returns the number of holds that end. */
    public int pass(int days) throws IllegalArgumentException, IllegalStateException {
        requireWithin(days, 1, MOST_DAYS);
        requireNoTransaction();
        if (today + days > LAST_DAY) {
            throw new IllegalStateException("the day would be greater than 9999");
        }
        today += days;
        int ended = 0;
        for (int hold = 0; hold < HOLDS; hold++) {
            if (holds.isStillOpen(hold) && holds.endOf(hold) <= today) {
                endHold(hold);
                ended++;
            }
        }
        return ended;
    }

    /** Returns the number of days that have passed. */
    public int day() {
        return today;
    }

    // ---- journal

    /** Begins a transaction; returns the number of entries of the journal. */
    public int begin() throws IllegalStateException {
        requireNoTransaction();
        atBegin.copyFrom(now);
        inTransaction = true;
        return now.entryTotal();
    }

    /** Commits the open transaction; returns the number of entries that it made. */
    public int commit() throws IllegalStateException {
        if (!inTransaction) {
            throw new IllegalStateException("no transaction is open");
        }
        inTransaction = false;
        return now.entryTotal() - atBegin.entryTotal();
    }

    /** Lets the system crash, and start again; returns the number of entries taken back. */
    public int crash() {
        if (!inTransaction) {
            return 0;
        }
        int takenBack = now.entryTotal() - atBegin.entryTotal();
        now.copyFrom(atBegin);
        inTransaction = false;
        return takenBack;
    }

    /** Returns the number of entries of the journal. */
    public int journalSize() {
        return now.entryTotal();
    }

    /** Returns of which kind an entry of the journal is: c, l, u, w, h, p or g. */
    public char entryKind(int entry) throws IndexOutOfBoundsException {
        if (entry < 0 || entry >= now.entryTotal() || entry >= ENTRIES) {
            throw new IndexOutOfBoundsException("there is no such entry");
        }
        return kinds[entry];
    }

    // ---- figures and line

    /** Returns the mean number of users of the blocks that are not free. */
    public double meanUsers() throws ArithmeticException {
        int blocks = BLOCKS - now.freeTotal();
        if (blocks == 0) {
            throw new ArithmeticException("all blocks are free");
        }
        int users = 0;
        for (int block = 0; block < BLOCKS; block++) {
            users += now.userTotal(block);
        }
        return (double) users / (double) blocks;
    }

    /** Returns the share of the files that exist on which a hold is open. */
    public float heldShare() throws ArithmeticException {
        int existing = 0;
        int held = 0;
        for (int file = 0; file < FILES; file++) {
            if (now.isAlive(file)) {
                existing++;
                held += holds.openTotal(file) > 0 ? 1 : 0;
            }
        }
        if (existing == 0) {
            throw new ArithmeticException("no file exists");
        }
        return (float) held / (float) existing;
    }

    /** Returns whether users, holds and promises agree with the files and the free blocks. */
    public boolean isConsistent() {
        return areUsersAsWalked() && areHeldFilesAlive()
                && now.promisedInAll() <= now.freeTotal();
    }

    /** Writes a file to the line, in place of the line before; returns the length of the line. */
    public int writeFile(int file) throws IndexOutOfBoundsException {
        requireFile(file);
        line.setLength(0);
        line.append(file).append('x').append(now.linkTotal(file));
        for (int place = 0; place < PLACES; place++) {
            int block = now.blockIn(file, place);
            if (block != HOLE) {
                line.append(' ').append(place).append(':').append(block);
            }
        }
        return line.length();
    }

    /** Returns a character of the line, which is empty at first. */
    public char lineAt(int index) throws IndexOutOfBoundsException {
        if (index < 0 || index >= line.length()) {
            throw new IndexOutOfBoundsException("there is no such character");
        }
        return line.charAt(index);
    }

    // ---- what the calls require

    private void requireWithin(int number, int least, int most) {
        if (number < least || number > most) {
            throw new IllegalArgumentException("the number is out of range");
        }
    }

    private void requireOwner(int owner) {
        if (owner < 0 || owner >= owners) {
            throw new IndexOutOfBoundsException("there is no such owner");
        }
    }

    private void requireFile(int file) {
        if (!now.hasFile(file)) {
            throw new IndexOutOfBoundsException("there is no such file");
        }
    }

    private void requirePlace(int place) {
        if (!isPlace(place)) {
            throw new IndexOutOfBoundsException("there is no such place");
        }
    }

    private void requireBlock(int block) {
        if (!isBlock(block)) {
            throw new IndexOutOfBoundsException("there is no such block");
        }
    }

    private void requireSnapshot(int snapshot) {
        if (!snapshots.wasTaken(snapshot)) {
            throw new IndexOutOfBoundsException("there has been no such snapshot");
        }
    }

    private void requireInSnapshot(int snapshot, int file) {
        if (!snapshots.includes(snapshot, file)) {
            throw new NoSuchElementException("the snapshot is not kept or lacks the file");
        }
    }

    private void requireHold(int hold) {
        if (!holds.wasOpened(hold)) {
            throw new IndexOutOfBoundsException("there is no such hold");
        }
    }

    private void requireLinks(int file) {
        if (now.linkTotal(file) == 0) {
            throw new IllegalStateException("the file has no links");
        }
    }

    private void requireNoTransaction() {
        if (inTransaction) {
            throw new IllegalStateException("a transaction is open");
        }
    }

    /** The place's own block stops counting when a new one takes its place. */
    private void requireBlockFor(int owner, int file, int place) {
        long others = now.blocksOfOwner(owner, file) | now.blocksInFile(file, place);
        if (Long.bitCount(others) + 1 > quotaOf(owner)) {
            throw new UnsupportedOperationException("more blocks than the quota");
        }
        if (now.freeTotal() - now.promisedInAll() + now.promisedFor(owner) <= 0) {
            throw new UnsupportedOperationException("no block is free for the owner");
        }
    }

    private int blockOrThrow(int file, int place) {
        requireFile(file);
        requirePlace(place);
        // A file that is gone has holes alone.
        int block = now.blockIn(file, place);
        if (block == HOLE) {
            throw new NoSuchElementException("there is a hole or the file is gone");
        }
        return block;
    }

    // ---- what the calls share

    private static boolean isBlock(int block) {
        return block >= 0 && block < BLOCKS;
    }

    private static boolean isPlace(int place) {
        return place >= 0 && place < PLACES;
    }

    private static void countUser(int[] users, int block) {
        if (isBlock(block) && block < users.length) {
            users[block]++;
        }
    }

    private int quotaOf(int owner) {
        return owner >= 0 && owner < owners ? quotas[owner] : 0;
    }

    private void note(char kind) {
        int entry = now.entryTotal();
        if (entry < ENTRIES) {
            kinds[entry] = kind;
            now.setEntries(entry + 1);
        }
    }

    private int endHold(int hold) {
        holds.close(hold);
        return removeIfAbandoned(holds.fileOf(hold));
    }

    private int removeIfAbandoned(int file) {
        if (now.linkTotal(file) > 0 || holds.openTotal(file) > 0) {
            return 0;
        }
        now.removeFile(file);
        return 1;
    }

    private void walkUsers() {
        Arrays.fill(walked, 0);
        now.walkFiles(walked);
        snapshots.walkKept(walked);
    }

    private boolean areUsersAsWalked() {
        walkUsers();
        for (int block = 0; block < BLOCKS; block++) {
            if (walked[block] != now.userTotal(block)) {
                return false;
            }
        }
        return true;
    }

    private boolean areHeldFilesAlive() {
        for (int hold = 0; hold < HOLDS; hold++) {
            if (holds.isStillOpen(hold) && !now.isAlive(holds.fileOf(hold))) {
                return false;
            }
        }
        return true;
    }

    /**
     * All that a crash takes back: files, blocks, promises and the length of the journal. It is
     * there twice, as it is and as it was when the transaction began.
     */
    private static final class State {
        private int files;
        private final int[] ownerOfFile;
        private final int[] links;
        private final boolean[] alive;
        private final int[] cells;
        private final int[] values;
        private final int[] users;
        private final int[] promised;
        private int entries;

        State() {
            files = 0;
            ownerOfFile = new int[FILES];
            links = new int[FILES];
            alive = new boolean[FILES];
            cells = new int[CELLS];
            Arrays.fill(cells, HOLE);
            values = new int[BLOCKS];
            users = new int[BLOCKS];
            promised = new int[OWNERS];
            entries = 0;
        }

        void copyFrom(State other) {
            files = other.files;
            System.arraycopy(other.ownerOfFile, 0, ownerOfFile, 0, FILES);
            System.arraycopy(other.links, 0, links, 0, FILES);
            for (int file = 0; file < FILES; file++) {
                alive[file] = other.alive[file];
            }
            System.arraycopy(other.cells, 0, cells, 0, CELLS);
            System.arraycopy(other.values, 0, values, 0, BLOCKS);
            System.arraycopy(other.users, 0, users, 0, BLOCKS);
            System.arraycopy(other.promised, 0, promised, 0, OWNERS);
            entries = other.entries;
        }

        int entryTotal() {
            return entries;
        }

        void setEntries(int total) {
            entries = total;
        }

        // files

        int fileTotal() {
            return files;
        }

        boolean hasFile(int file) {
            return file >= 0 && file < files && file < FILES;
        }

        int addFile(int owner) {
            if (files >= FILES) {
                return NONE;
            }
            int file = files;
            ownerOfFile[file] = owner;
            links[file] = 1;
            alive[file] = true;
            files = file + 1;
            return file;
        }

        void removeFile(int file) {
            if (hasFile(file)) {
                alive[file] = false;
                for (int place = 0; place < PLACES; place++) {
                    setBlock(file, place, HOLE);
                }
            }
        }

        boolean isAlive(int file) {
            return hasFile(file) && alive[file];
        }

        int ownerIn(int file) {
            return hasFile(file) ? ownerOfFile[file] : NONE;
        }

        int linkTotal(int file) {
            return hasFile(file) ? links[file] : 0;
        }

        void setLinks(int file, int total) {
            if (hasFile(file)) {
                links[file] = total;
            }
        }

        int blockIn(int file, int place) {
            return hasFile(file) && isPlace(place) ? cells[file * PLACES + place] : HOLE;
        }

        /** Gives a place another block, or a hole, and keeps the users of both. */
        void setBlock(int file, int place, int block) {
            if (hasFile(file) && isPlace(place)) {
                int cell = file * PLACES + place;
                removeUser(cells[cell]);
                addUser(block);
                cells[cell] = block;
            }
        }

        /** The blocks of a file but that of one place, a bit for each. */
        long blocksInFile(int file, int exceptPlace) {
            long blocks = 0;
            for (int place = 0; place < PLACES; place++) {
                int block = blockIn(file, place);
                if (place != exceptPlace && block != HOLE) {
                    blocks |= 1L << block;
                }
            }
            return blocks;
        }

        /** The blocks of all files of an owner but one, a bit for each. */
        long blocksOfOwner(int owner, int exceptFile) {
            long blocks = 0;
            for (int file = 0; file < files; file++) {
                if (file != exceptFile && ownerIn(file) == owner) {
                    blocks |= blocksInFile(file, NONE);
                }
            }
            return blocks;
        }

        void walkFiles(int[] counts) {
            for (int file = 0; file < files; file++) {
                for (int place = 0; place < PLACES; place++) {
                    countUser(counts, blockIn(file, place));
                }
            }
        }

        // blocks

        int userTotal(int block) {
            return isBlock(block) ? users[block] : 0;
        }

        void addUser(int block) {
            if (isBlock(block)) {
                users[block]++;
            }
        }

        void removeUser(int block) {
            if (isBlock(block)) {
                users[block]--;
            }
        }

        int valueIn(int block) {
            return isBlock(block) ? values[block] : 0;
        }

        void setValue(int block, int value) {
            if (isBlock(block)) {
                values[block] = value;
            }
        }

        int freeTotal() {
            int free = 0;
            for (int block = 0; block < BLOCKS; block++) {
                if (users[block] == 0) {
                    free++;
                }
            }
            return free;
        }

        /** Finds the free block with the lowest number, and uses up a promise to the owner. */
        int takeBlock(int owner) {
            for (int block = 0; block < BLOCKS; block++) {
                if (users[block] == 0) {
                    setPromised(owner, Math.max(0, promisedFor(owner) - 1));
                    return block;
                }
            }
            return HOLE;
        }

        // promises

        int promisedFor(int owner) {
            return owner >= 0 && owner < OWNERS ? promised[owner] : 0;
        }

        void setPromised(int owner, int blocks) {
            if (owner >= 0 && owner < OWNERS) {
                promised[owner] = blocks;
            }
        }

        int promisedInAll() {
            int blocks = 0;
            for (int owner = 0; owner < OWNERS; owner++) {
                blocks += promised[owner];
            }
            return blocks;
        }
    }

    /** All snapshots by their numbers; those that are kept have a row for their places. */
    private static final class Snapshots {
        private int taken;
        private int kept;
        private final int[] ranks;
        private final int[] rows;
        private final boolean[] rowInUse;
        private final boolean[] fileInRow;
        private final int[][] cells;

        Snapshots() {
            taken = 0;
            kept = 0;
            ranks = new int[SNAPSHOTS];
            rows = new int[SNAPSHOTS];
            Arrays.fill(rows, NONE);
            rowInUse = new boolean[KEPT_SNAPSHOTS];
            fileInRow = new boolean[KEPT_SNAPSHOTS * FILES];
            cells = new int[KEPT_SNAPSHOTS][CELLS];
        }

        int takenTotal() {
            return taken;
        }

        int keptTotal() {
            return kept;
        }

        boolean wasTaken(int snapshot) {
            return snapshot >= 0 && snapshot < taken && snapshot < SNAPSHOTS;
        }

        int rowOf(int snapshot) {
            return wasTaken(snapshot) ? rows[snapshot] : NONE;
        }

        private static boolean isRow(int row) {
            return row >= 0 && row < KEPT_SNAPSHOTS;
        }

        int add(int rank, State state) {
            int row = unusedRow();
            if (taken >= SNAPSHOTS || !isRow(row)) {
                return NONE;
            }
            int snapshot = taken;
            ranks[snapshot] = rank;
            rows[snapshot] = row;
            rowInUse[row] = true;
            taken++;
            kept++;
            fillRow(row, state);
            return snapshot;
        }

        private int unusedRow() {
            for (int row = 0; row < KEPT_SNAPSHOTS; row++) {
                if (!rowInUse[row]) {
                    return row;
                }
            }
            return NONE;
        }

        private void fillRow(int row, State state) {
            if (!isRow(row)) {
                return;
            }
            for (int file = 0; file < FILES; file++) {
                fileInRow[row * FILES + file] = state.isAlive(file);
                for (int place = 0; place < PLACES && state.isAlive(file); place++) {
                    int block = state.blockIn(file, place);
                    cells[row][file * PLACES + place] = block;
                    state.addUser(block);
                }
            }
        }

        void drop(int snapshot, State state) {
            int row = rowOf(snapshot);
            if (!isRow(row)) {
                return;
            }
            for (int file = 0; file < FILES; file++) {
                for (int place = 0; place < PLACES && isInRow(row, file); place++) {
                    state.removeUser(cells[row][file * PLACES + place]);
                }
            }
            rows[snapshot] = NONE;
            rowInUse[row] = false;
            kept--;
        }

        boolean includes(int snapshot, int file) {
            return isInRow(rowOf(snapshot), file);
        }

        /** A row keeps what it had before for files that are not in it. */
        private boolean isInRow(int row, int file) {
            return isRow(row) && file >= 0 && file < FILES && fileInRow[row * FILES + file];
        }

        int blockIn(int snapshot, int file, int place) {
            int row = rowOf(snapshot);
            if (!isInRow(row, file) || !isPlace(place)) {
                return HOLE;
            }
            return cells[row][file * PLACES + place];
        }

        /** The blocks of a file in a snapshot, a bit for each. */
        long blocksInFile(int snapshot, int file) {
            long blocks = 0;
            for (int place = 0; place < PLACES; place++) {
                int block = blockIn(snapshot, file, place);
                if (block != HOLE) {
                    blocks |= 1L << block;
                }
            }
            return blocks;
        }

        /** The kept snapshot with the least rank, of several the oldest one, or NONE. */
        int leastKept() {
            int least = NONE;
            for (int snapshot = 0; snapshot < SNAPSHOTS; snapshot++) {
                boolean isLess = least == NONE || ranks[snapshot] < ranks[least];
                if (rows[snapshot] != NONE && isLess) {
                    least = snapshot;
                }
            }
            return least;
        }

        void walkKept(int[] counts) {
            for (int row = 0; row < KEPT_SNAPSHOTS; row++) {
                for (int file = 0; file < FILES && rowInUse[row]; file++) {
                    for (int place = 0; place < PLACES && isInRow(row, file); place++) {
                        countUser(counts, cells[row][file * PLACES + place]);
                    }
                }
            }
        }
    }

    /** All holds by their numbers, open or not. */
    private static final class Holds {
        private int opened;
        private final int[] files;
        private final int[] ends;
        private final boolean[] open;

        Holds() {
            opened = 0;
            files = new int[HOLDS];
            ends = new int[HOLDS];
            open = new boolean[HOLDS];
        }

        int openedTotal() {
            return opened;
        }

        boolean wasOpened(int hold) {
            return hold >= 0 && hold < opened && hold < HOLDS;
        }

        boolean isStillOpen(int hold) {
            return wasOpened(hold) && open[hold];
        }

        int fileOf(int hold) {
            return wasOpened(hold) ? files[hold] : NONE;
        }

        int endOf(int hold) {
            return wasOpened(hold) ? ends[hold] : NONE;
        }

        int add(int file, int end) {
            if (opened >= HOLDS) {
                return NONE;
            }
            int hold = opened;
            files[hold] = file;
            ends[hold] = end;
            open[hold] = true;
            opened = hold + 1;
            return hold;
        }

        void close(int hold) {
            if (wasOpened(hold)) {
                open[hold] = false;
            }
        }

        int openTotal(int file) {
            int total = 0;
            for (int hold = 0; hold < opened; hold++) {
                if (isStillOpen(hold) && files[hold] == file) {
                    total++;
                }
            }
            return total;
        }

        int firstToEnd() {
            int first = NONE;
            for (int hold = 0; hold < opened; hold++) {
                if (isStillOpen(hold) && (first == NONE || ends[hold] < endOf(first))) {
                    first = hold;
                }
            }
            return first;
        }
    }
}
