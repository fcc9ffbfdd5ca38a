import java.util.Arrays;
import java.util.NoSuchElementException;

/**
 * A file system in an image of blocks, on a device that may lose or keep what
 * wasn't flushed when power goes. The document ../shared/DOC.md says what each
 * call promises.
 */
public final class ExtVolume {
    private static final int BLOCKS = 48;
    private static final int INTS = 8;
    private static final int INODES = 16;
    private static final int NAMES = 26;
    private static final int NONE = -1;

    private static final int MAGIC = 61267;
    private static final int CLEAN = 1;
    private static final int IN_USE = 2;
    private static final int STATE_AT = 1;
    private static final int TAIL_AT = 2;
    private static final int START_AT = 3;

    private static final int BITMAP_BLOCK = 1;
    private static final int BLOCK_BITS_AT = BITMAP_BLOCK * INTS;
    private static final int INODE_BITS_AT = BLOCK_BITS_AT + 2;
    private static final int INODES_AT = 2 * INTS;
    private static final int LAST_INODE_BLOCK = 9;
    private static final int FIRST_PLACE = 10;
    private static final int PLACES = 8;
    private static final int FIRST_DATA = 18;

    private static final int ROOT = 1;
    private static final int FREE = 0;
    private static final int FILE = 1;
    private static final int DIRECTORY = 2;
    private static final int ONE_LINK = 16;
    private static final int SIZE_WORD = 1;
    private static final int NUMBERS_WORD = 2;
    private static final int FULL_SIZE = 2 * INTS;

    private static final int HEADER = 1001;
    private static final int SEAL = 1002;
    private static final int MOST_LOGGED = 6;

    private static final int NO_FUSE = -1;
    private static final int LONGEST_FUSE = 60;
    private static final int PASSES = 5;

    private final Device device;
    private final Memory memory;
    private final Journal journal;
    private final Checker checker;

    public ExtVolume() {
        device = new Device();
        memory = new Memory();
        journal = new Journal(device, memory);
        checker = new Checker();
    }

    public void format() throws IllegalStateException, ArithmeticException {
        requireNotMounted();
        memory.makeFresh();
        for (int b = 0; b < BLOCKS; b++) {
            device.putBlock(b, memory.image, b * INTS);
        }
        device.flushAll();
    }

    public int mount() throws IllegalStateException, UnsupportedOperationException, ArithmeticException {
        requireNotMounted();
        int start = device.now[START_AT];
        requireFit(device.now[0] == MAGIC && start >= 0 && start < PLACES);
        int found = journal.recover();
        checker.examine(device.now);
        requireFit(checker.faultsInAll() == 0);
        memory.load(device.now);
        device.mounted = true;
        return found;
    }

    public void unmount() throws IllegalStateException, ArithmeticException {
        requireMounted();
        journal.commit();
        journal.makeCheckpoint();
        journal.putFirstBlock(CLEAN);
        device.mounted = false;
    }

    public void fuse(int n, int mask) throws IllegalArgumentException {
        requireRange(n, NO_FUSE, LONGEST_FUSE);
        device.fuseLeft = n;
        device.fuseMask = mask;
    }

    public void crash() {
        device.mounted = false;
    }

    public int sync() throws IllegalStateException, ArithmeticException {
        requireMounted();
        journal.commit();
        return journal.sequence;
    }

    public void checkpoint() throws IllegalStateException, ArithmeticException {
        requireMounted();
        journal.commit();
        journal.makeCheckpoint();
    }

    public int create(int d, int name, boolean directory) throws IllegalArgumentException, IllegalStateException,
            NoSuchElementException, UnsupportedOperationException, ArithmeticException {
        requireInode(d);
        requireName(name);
        beginChange();
        requireThere(memory.isUsed(d));
        requireNameless(d, name);
        int i = memory.leastFreeInode();
        requireRoom(i != NONE && memory.hasRoomForEntry(d, directory ? 1 : 0));
        if (directory) {
            memory.makeDirectory(i);
        } else {
            memory.makeFile(i);
        }
        memory.addEntry(d, name, i);
        return i;
    }

    public void link(int d, int name, int i) throws IllegalArgumentException, IllegalStateException,
            NoSuchElementException, UnsupportedOperationException, ArithmeticException {
        requireInode(d);
        requireName(name);
        requireInode(i);
        beginChange();
        requireThere(memory.isUsed(d) && memory.isUsed(i));
        requireNameless(d, name);
        requireFit(memory.isKind(i, FILE));
        requireRoom(memory.hasRoomForEntry(d, 0));
        memory.addEntry(d, name, i);
        memory.addLinks(i, 1);
    }

    public void unlink(int d, int name) throws IllegalArgumentException, IllegalStateException,
            NoSuchElementException, UnsupportedOperationException, ArithmeticException {
        requireInode(d);
        requireName(name);
        beginChange();
        int at = requireEntry(d, name);
        int i = Layout.inodeIn(memory.image[at]);
        requireFit(memory.isKind(i, FILE) || memory.isEmptyDirectory(i));
        memory.change(at, 0);
        memory.addLinks(i, -1);
        if (Layout.linksOf(memory.image, i) == 0) {
            memory.dropInode(i);
        }
    }

    public void rename(int d, int name, int e, int other) throws IllegalArgumentException, IllegalStateException,
            NoSuchElementException, UnsupportedOperationException, ArithmeticException {
        requireInode(d);
        requireName(name);
        requireInode(e);
        requireName(other);
        beginChange();
        int at = requireEntry(d, name);
        requireThere(memory.isUsed(e));
        requireNameless(e, other);
        int i = Layout.inodeIn(memory.image[at]);
        requireFit(!memory.isAtOrAbove(i, e));
        requireRoom(memory.hasRoomForEntry(e, 0));
        memory.addEntry(e, other, i);
        memory.change(at, 0);
    }

    public void write(int i, int k, int v) throws IllegalArgumentException, IllegalStateException,
            NoSuchElementException, UnsupportedOperationException, ArithmeticException {
        requireInode(i);
        requireRange(k, 0, FULL_SIZE - 1);
        beginChange();
        requireFile(i);
        requireRoom(memory.hasBlockFor(i, k) || memory.takeableBlocks() > 0);
        memory.putInt(i, k, v);
    }

    public void truncate(int i, int n) throws IllegalArgumentException, IllegalStateException,
            NoSuchElementException, UnsupportedOperationException, ArithmeticException {
        requireInode(i);
        requireRange(n, 0, FULL_SIZE);
        beginChange();
        requireFile(i);
        memory.cutFile(i, n);
    }

    public int read(int i, int k) throws IllegalArgumentException, IllegalStateException,
            NoSuchElementException, UnsupportedOperationException {
        requireInode(i);
        requireRange(k, 0, FULL_SIZE - 1);
        requireMounted();
        requireFile(i);
        requireThere(k < Layout.sizeOf(memory.image, i));
        return memory.getInt(i, k);
    }

    public int lookup(int d, int name) throws IllegalArgumentException, IllegalStateException,
            NoSuchElementException, UnsupportedOperationException {
        requireInode(d);
        requireName(name);
        requireMounted();
        return Layout.inodeIn(memory.image[requireEntry(d, name)]);
    }

    public int raw(int b, int i) throws IllegalArgumentException {
        requireRange(b, 0, BLOCKS - 1);
        requireRange(i, 0, INTS - 1);
        return device.now[b * INTS + i];
    }

    public void tamper(int b, int i, int v) throws IllegalArgumentException, IllegalStateException {
        requireRange(b, 0, BLOCKS - 1);
        requireRange(i, 0, INTS - 1);
        requireNotMounted();
        device.force(b * INTS + i, v);
    }

    public int check(int p) throws IllegalArgumentException, IllegalStateException {
        requireRange(p, 1, PASSES);
        requireNotMounted();
        checker.examine(device.now);
        return checker.faults[p - 1];
    }

    public int count(int what) {
        switch (what) {
            case 0:
                return device.mounted ? 1 : 0;
            case 1:
                return device.writes;
            case 2:
                return device.fuseLeft;
            case 3:
                return device.flushes;
            case 10:
                return journal.commits;
            case 11:
                return journal.checkpoints;
            default:
                return what >= 4 && what <= 9 ? countInMemory(what) : -1;
        }
    }

    private int countInMemory(int what) {
        if (!device.mounted) {
            return 0;
        }
        switch (what) {
            case 4:
                return journal.sequence;
            case 5:
                return Long.bitCount(memory.transaction);
            case 6:
                return Long.bitCount(memory.loose);
            case 7:
                return journal.freePlaces();
            case 8:
                return memory.takeableBlocks();
            default:
                return memory.freeInodes();
        }
    }

    /** Keeps a transaction small enough for the journal: one call adds five blocks at the most. */
    private void beginChange() {
        requireMounted();
        if (Long.bitCount(memory.transaction) >= 2) {
            journal.commit();
        }
    }

    private int requireEntry(int d, int name) {
        requireThere(memory.isUsed(d));
        requireFit(memory.isKind(d, DIRECTORY));
        int at = memory.findEntry(d, name);
        requireThere(at != NONE);
        return at;
    }

    private void requireNameless(int d, int name) {
        requireFit(memory.isKind(d, DIRECTORY) && memory.findEntry(d, name) == NONE);
    }

    private void requireFile(int i) {
        requireThere(memory.isUsed(i));
        requireFit(memory.isKind(i, FILE));
    }

    private void requireMounted() {
        if (!device.mounted) {
            throw new IllegalStateException("not mounted");
        }
    }

    private void requireNotMounted() {
        if (device.mounted) {
            throw new IllegalStateException("mounted");
        }
    }

    private static void requireInode(int i) {
        requireRange(i, 1, INODES - 1);
    }

    private static void requireName(int name) {
        requireRange(name, 1, NAMES);
    }

    private static void requireRange(int value, int least, int most) {
        if (value < least || value > most) {
            throw new IllegalArgumentException("out of range");
        }
    }

    private static void requireThere(boolean there) {
        if (!there) {
            throw new NoSuchElementException("missing");
        }
    }

    private static void requireFit(boolean fit) {
        if (!fit) {
            throw new UnsupportedOperationException("unfit");
        }
    }

    private static void requireRoom(boolean room) {
        if (!room) {
            throw new IllegalStateException("no room");
        }
    }

    /** Where things stand in an image of 48 blocks laid end to end. */
    private static final class Layout {
        static int inodeAt(int i) {
            return INODES_AT + 4 * i;
        }

        static int kindOf(int[] image, int i) {
            return image[inodeAt(i)] & 15;
        }

        static int linksOf(int[] image, int i) {
            return image[inodeAt(i)] >>> 4;
        }

        static int sizeOf(int[] image, int i) {
            return image[inodeAt(i) + SIZE_WORD];
        }

        /** Where the number of the data block with int or entry k of inode i stands. */
        static int numberAt(int i, int k) {
            return inodeAt(i) + NUMBERS_WORD + k / INTS;
        }

        static int intAt(int[] image, int i, int k) {
            return image[numberAt(i, k)] * INTS + k % INTS;
        }

        static int nameIn(int entry) {
            return entry & 31;
        }

        static int inodeIn(int entry) {
            return entry >>> 5;
        }

        static int entryOf(int name, int i) {
            return name + 32 * i;
        }

        static boolean isDataBlock(int b) {
            return b >= FIRST_DATA && b < BLOCKS;
        }

        static boolean holds(long set, int b) {
            return ((set >>> b) & 1L) != 0;
        }

        static int placeAt(int place) {
            return (FIRST_PLACE + place % PLACES) * INTS;
        }
    }

    /**
     * Blocks that are read as last written; only those outlive a loss of power
     * that were flushed or that the fuse's mask spares.
     */
    private static final class Device {
        final int[] now = new int[BLOCKS * INTS];
        /** What would be left if power went now. */
        final int[] afterLoss = new int[BLOCKS * INTS];
        int writesSinceFlush;
        int writes;
        int flushes;
        int fuseLeft = NO_FUSE;
        int fuseMask;
        /** Kept here because a loss of power ends it. */
        boolean mounted;

        /**
         * The mask is asked at once: a fuse is only changed between calls, and
         * every call that comes to its end has flushed what it wrote.
         */
        void putBlock(int b, int[] from, int at) {
            spendAction();
            System.arraycopy(from, at, now, b * INTS, INTS);
            if (((fuseMask >>> (writesSinceFlush % 31)) & 1) != 0) {
                System.arraycopy(from, at, afterLoss, b * INTS, INTS);
            }
            writesSinceFlush++;
            writes++;
        }

        void flushAll() {
            spendAction();
            System.arraycopy(now, 0, afterLoss, 0, BLOCKS * INTS);
            writesSinceFlush = 0;
            flushes++;
        }

        void force(int at, int v) {
            now[at] = v;
            afterLoss[at] = v;
        }

        private void spendAction() {
            if (fuseLeft == 0) {
                System.arraycopy(afterLoss, 0, now, 0, BLOCKS * INTS);
                writesSinceFlush = 0;
                fuseLeft = NO_FUSE;
                mounted = false;
                throw new ArithmeticException("power is gone");
            }
            if (fuseLeft > 0) {
                fuseLeft--;
            }
        }
    }

    /**
     * The image as a mounted volume has it, and what has happened to its blocks
     * since the latest commit. A set of blocks is a long with a bit for each.
     */
    private static final class Memory {
        final int[] image = new int[BLOCKS * INTS];
        long transaction;
        long loose;
        long waiting;
        boolean directoryBlockFreed;

        void load(int[] from) {
            System.arraycopy(from, 0, image, 0, BLOCKS * INTS);
            endCommit();
        }

        void endCommit() {
            transaction = 0;
            loose = 0;
            waiting = 0;
            directoryBlockFreed = false;
        }

        void makeFresh() {
            Arrays.fill(image, 0);
            image[0] = MAGIC;
            image[STATE_AT] = CLEAN;
            image[TAIL_AT] = 1;
            image[BLOCK_BITS_AT] = (1 << (FIRST_DATA + 1)) - 1;
            image[INODE_BITS_AT] = 1 | (1 << ROOT);
            image[Layout.inodeAt(ROOT)] = DIRECTORY + ONE_LINK;
            image[Layout.inodeAt(ROOT) + SIZE_WORD] = INTS;
            image[Layout.inodeAt(ROOT) + NUMBERS_WORD] = FIRST_DATA;
        }

        /** For what is journalled; a file's own ints are not. */
        void change(int at, int v) {
            if (image[at] != v) {
                image[at] = v;
                transaction |= 1L << (at / INTS);
            }
        }

        boolean isUsed(int i) {
            return !isKind(i, FREE);
        }

        boolean isKind(int i, int kind) {
            return Layout.kindOf(image, i) == kind;
        }

        int leastFreeInode() {
            for (int i = 1; i < INODES; i++) {
                if (!isUsed(i)) {
                    return i;
                }
            }
            return NONE;
        }

        int freeInodes() {
            int free = 0;
            for (int i = 1; i < INODES; i++) {
                if (!isUsed(i)) {
                    free++;
                }
            }
            return free;
        }

        boolean isTakeable(int b) {
            return ((image[BLOCK_BITS_AT + b / 32] >>> (b % 32)) & 1) == 0 && !Layout.holds(waiting, b);
        }

        int takeableBlocks() {
            int takeable = 0;
            for (int b = FIRST_DATA; b < BLOCKS; b++) {
                if (isTakeable(b)) {
                    takeable++;
                }
            }
            return takeable;
        }

        /** The caller has looked whether there is one. */
        int takeBlock() {
            int b = FIRST_DATA;
            while (b < BLOCKS - 1 && !isTakeable(b)) {
                b++;
            }
            int at = BLOCK_BITS_AT + b / 32;
            change(at, image[at] | (1 << (b % 32)));
            for (int i = 0; i < INTS; i++) {
                image[b * INTS + i] = 0;
            }
            return b;
        }

        int takeDirectoryBlock() {
            int b = takeBlock();
            transaction |= 1L << b;
            return b;
        }

        /** Frees the data block whose number stands at numberAt, if there is one. */
        void freeBlock(int numberAt) {
            int b = image[numberAt];
            if (b == 0) {
                return;
            }
            int at = BLOCK_BITS_AT + b / 32;
            change(at, image[at] & ~(1 << (b % 32)));
            change(numberAt, 0);
            waiting |= 1L << b;
            loose &= ~(1L << b);
            transaction &= ~(1L << b);
        }

        void makeFile(int i) {
            change(INODE_BITS_AT, image[INODE_BITS_AT] | (1 << i));
            change(Layout.inodeAt(i), FILE + ONE_LINK);
        }

        void makeDirectory(int i) {
            change(INODE_BITS_AT, image[INODE_BITS_AT] | (1 << i));
            change(Layout.inodeAt(i), DIRECTORY + ONE_LINK);
            change(Layout.inodeAt(i) + SIZE_WORD, INTS);
            change(Layout.inodeAt(i) + NUMBERS_WORD, takeDirectoryBlock());
        }

        void addLinks(int i, int more) {
            int at = Layout.inodeAt(i);
            change(at, image[at] + ONE_LINK * more);
        }

        void dropInode(int i) {
            directoryBlockFreed |= isKind(i, DIRECTORY);
            freeBlock(Layout.numberAt(i, 0));
            freeBlock(Layout.numberAt(i, INTS));
            change(Layout.inodeAt(i), 0);
            change(Layout.inodeAt(i) + SIZE_WORD, 0);
            change(INODE_BITS_AT, image[INODE_BITS_AT] & ~(1 << i));
        }

        int findEntry(int d, int name) {
            int size = Layout.sizeOf(image, d);
            for (int place = 0; place < size; place++) {
                int at = Layout.intAt(image, d, place);
                if (Layout.nameIn(image[at]) == name) {
                    return at;
                }
            }
            return NONE;
        }

        /** A free entry has the name 0, as no other one does. */
        int findFreeEntry(int d) {
            return findEntry(d, 0);
        }

        boolean hasRoomForEntry(int d, int blocksBefore) {
            if (findFreeEntry(d) != NONE) {
                return takeableBlocks() >= blocksBefore;
            }
            return Layout.sizeOf(image, d) < FULL_SIZE && takeableBlocks() > blocksBefore;
        }

        /** The caller has looked whether there is room. */
        void addEntry(int d, int name, int i) {
            int at = findFreeEntry(d);
            if (at == NONE) {
                int b = takeDirectoryBlock();
                change(Layout.numberAt(d, INTS), b);
                change(Layout.inodeAt(d) + SIZE_WORD, FULL_SIZE);
                at = b * INTS;
            }
            change(at, Layout.entryOf(name, i));
        }

        boolean isEmptyDirectory(int d) {
            int size = Layout.sizeOf(image, d);
            for (int place = 0; place < size; place++) {
                if (image[Layout.intAt(image, d, place)] != 0) {
                    return false;
                }
            }
            return true;
        }

        boolean isAtOrAbove(int i, int e) {
            int d = e;
            for (int steps = 0; steps < INODES && d != NONE; steps++) {
                if (d == i) {
                    return true;
                }
                d = directoryWith(d);
            }
            return false;
        }

        int directoryWith(int i) {
            for (int d = 1; d < INODES; d++) {
                if (isKind(d, DIRECTORY) && hasEntryOf(d, i)) {
                    return d;
                }
            }
            return NONE;
        }

        boolean hasEntryOf(int d, int i) {
            int size = Layout.sizeOf(image, d);
            for (int place = 0; place < size; place++) {
                if (Layout.inodeIn(image[Layout.intAt(image, d, place)]) == i) {
                    return true;
                }
            }
            return false;
        }

        boolean hasBlockFor(int i, int k) {
            return image[Layout.numberAt(i, k)] != 0;
        }

        int getInt(int i, int k) {
            return hasBlockFor(i, k) ? image[Layout.intAt(image, i, k)] : 0;
        }

        /** The caller has looked whether there is a block, or one to take. */
        void putInt(int i, int k, int v) {
            int numberAt = Layout.numberAt(i, k);
            if (image[numberAt] == 0) {
                change(numberAt, takeBlock());
            }
            image[Layout.intAt(image, i, k)] = v;
            loose |= 1L << image[numberAt];
            change(Layout.inodeAt(i) + SIZE_WORD, Math.max(Layout.sizeOf(image, i), k + 1));
        }

        void cutFile(int i, int n) {
            for (int k = 0; k < FULL_SIZE; k += INTS) {
                if (k >= n) {
                    freeBlock(Layout.numberAt(i, k));
                }
            }
            for (int k = n; k < FULL_SIZE; k++) {
                if (getInt(i, k) != 0) {
                    image[Layout.intAt(image, i, k)] = 0;
                    loose |= 1L << image[Layout.numberAt(i, k)];
                }
            }
            change(Layout.inodeAt(i) + SIZE_WORD, n);
        }
    }

    /** The ring of eight places through which changed blocks go before they are written where they belong. */
    private static final class Journal {
        final Device device;
        final Memory memory;
        /** The blocks of commits since the latest checkpoint, as they were in the latest of these. */
        final int[] committed = new int[BLOCKS * INTS];
        final int[] buffer = new int[INTS];
        long inCommits;
        int firstFree;
        int usedPlaces;
        int sequence;
        int commits;
        int checkpoints;

        Journal(Device device, Memory memory) {
            this.device = device;
            this.memory = memory;
        }

        int freePlaces() {
            return PLACES - usedPlaces;
        }

        void commit() {
            putLooseBlocks();
            if (memory.transaction != 0) {
                int n = Long.bitCount(memory.transaction);
                if (freePlaces() < n + 2) {
                    makeCheckpoint();
                }
                putHeader(n);
                int sum = putTransaction();
                putSeal(n, sum);
                usePlaces(n + 2);
                commits++;
                inCommits |= memory.transaction;
                if (memory.directoryBlockFreed) {
                    makeCheckpoint();
                }
            }
            memory.endCommit();
        }

        void makeCheckpoint() {
            if (inCommits != 0) {
                for (int b = 0; b < BLOCKS; b++) {
                    if (Layout.holds(inCommits, b)) {
                        device.putBlock(b, committed, b * INTS);
                    }
                }
                device.flushAll();
            }
            putFirstBlock(IN_USE);
            inCommits = 0;
            usedPlaces = 0;
            checkpoints++;
        }

        /** Made anew each time, so that what else may have stood in it is 0, as in the image. */
        void putFirstBlock(int state) {
            Arrays.fill(buffer, 0);
            buffer[0] = MAGIC;
            buffer[STATE_AT] = state;
            buffer[TAIL_AT] = sequence;
            buffer[START_AT] = firstFree;
            device.putBlock(0, buffer, 0);
            device.flushAll();
        }

        /** Answers how many commits there were to recover. */
        int recover() {
            firstFree = device.now[START_AT];
            sequence = device.now[TAIL_AT];
            usedPlaces = 0;
            inCommits = 0;
            int found = 0;
            for (int n = sealedBlocks(); n > 0 && found < PLACES; n = sealedBlocks()) {
                for (int k = 1; k <= n; k++) {
                    device.putBlock(loggedNumber(k), device.now, Layout.placeAt(firstFree + k));
                }
                usePlaces(n + 2);
                found++;
            }
            if (found > 0) {
                device.flushAll();
            }
            usedPlaces = 0;
            putFirstBlock(IN_USE);
            return found;
        }

        private void putLooseBlocks() {
            if (memory.loose == 0) {
                return;
            }
            for (int b = FIRST_DATA; b < BLOCKS; b++) {
                if (Layout.holds(memory.loose, b)) {
                    device.putBlock(b, memory.image, b * INTS);
                }
            }
            device.flushAll();
        }

        private void putHeader(int n) {
            Arrays.fill(buffer, 0);
            buffer[0] = HEADER;
            buffer[1] = sequence;
            buffer[2] = n;
            int k = 0;
            for (int b = 0; b < BLOCKS && k < MOST_LOGGED; b++) {
                if (Layout.holds(memory.transaction, b)) {
                    buffer[3 + k / 2] += k % 2 == 0 ? b : b * 64;
                    k++;
                }
            }
            putPlace(0, buffer, 0);
        }

        /** Answers the sum. */
        private int putTransaction() {
            int sum = 0;
            int k = 1;
            for (int b = 0; b < BLOCKS; b++) {
                if (Layout.holds(memory.transaction, b)) {
                    putPlace(k, memory.image, b * INTS);
                    System.arraycopy(memory.image, b * INTS, committed, b * INTS, INTS);
                    sum = addToSum(sum, memory.image, b * INTS);
                    k++;
                }
            }
            device.flushAll();
            return sum;
        }

        private void putSeal(int n, int sum) {
            Arrays.fill(buffer, 0);
            buffer[0] = SEAL;
            buffer[1] = sequence;
            buffer[2] = sum;
            putPlace(n + 1, buffer, 0);
            device.flushAll();
        }

        private void putPlace(int behind, int[] from, int at) {
            device.putBlock(Layout.placeAt(firstFree + behind) / INTS, from, at);
        }

        private void usePlaces(int n) {
            firstFree = (firstFree + n) % PLACES;
            usedPlaces += n;
            sequence++;
        }

        private static int addToSum(int sum, int[] from, int at) {
            int more = sum;
            for (int i = 0; i < INTS; i++) {
                more = 31 * more + from[at + i];
            }
            return more;
        }

        /** How many blocks the commit that is due at the first free place has, 0 if it isn't there whole. */
        private int sealedBlocks() {
            int header = Layout.placeAt(firstFree);
            int n = device.now[header + 2];
            if (device.now[header] != HEADER || device.now[header + 1] != sequence) {
                return 0;
            }
            if (n < 1 || n > MOST_LOGGED || n + 2 > freePlaces()) {
                return 0;
            }
            int sum = 0;
            for (int k = 1; k <= n; k++) {
                int b = loggedNumber(k);
                if ((b < BITMAP_BLOCK || b > LAST_INODE_BLOCK) && !Layout.isDataBlock(b)) {
                    return 0;
                }
                sum = addToSum(sum, device.now, Layout.placeAt(firstFree + k));
            }
            return isSeal(Layout.placeAt(firstFree + n + 1), sum) ? n : 0;
        }

        private boolean isSeal(int at, int sum) {
            return device.now[at] == SEAL && device.now[at + 1] == sequence && device.now[at + 2] == sum;
        }

        /** Where the k-th block (from 1 on) of the commit at the first free place belongs. */
        private int loggedNumber(int k) {
            int pair = device.now[Layout.placeAt(firstFree) + 3 + (k - 1) / 2];
            return k % 2 == 1 ? pair & 63 : pair >>> 6;
        }
    }

    /** The check in five passes of an image that may be anything. */
    private static final class Checker {
        final int[] faults = new int[PASSES];
        /** How many entries have each inode. */
        private final int[] entries = new int[INODES];
        /** The directory of the first entry that has each inode, 0 for none. */
        private final int[] homes = new int[INODES];

        void examine(int[] image) {
            Arrays.fill(faults, 0);
            faults[0] = badInodes(image) + repeatedNumbers(image);
            if (Layout.kindOf(image, ROOT) != DIRECTORY) {
                faults[0]++;
            }
            // Later passes follow the numbers and entries that the earlier ones have found right.
            if (faults[0] == 0) {
                faults[1] = badEntries(image);
            }
            if (faults[0] == 0 && faults[1] == 0) {
                gatherEntries(image);
                faults[2] = strayDirectories(image);
                faults[3] = wrongLinks(image);
                faults[4] = wrongBits(image);
            }
        }

        int faultsInAll() {
            int all = 0;
            for (int pass = 0; pass < PASSES; pass++) {
                all += faults[pass];
            }
            return all;
        }

        private static int badInodes(int[] image) {
            int bad = 0;
            for (int i = 1; i < INODES; i++) {
                if (!isRight(image, i)) {
                    bad++;
                }
            }
            return bad;
        }

        private static boolean isRight(int[] image, int i) {
            int at = Layout.inodeAt(i);
            int kind = Layout.kindOf(image, i);
            int size = Layout.sizeOf(image, i);
            if (kind == FREE) {
                return image[at] == 0 && size == 0
                        && image[at + NUMBERS_WORD] == 0 && image[at + NUMBERS_WORD + 1] == 0;
            }
            if (kind > DIRECTORY || Layout.linksOf(image, i) == 0) {
                return false;
            }
            boolean sizeFits = kind == FILE ? size >= 0 && size <= FULL_SIZE : size == INTS || size == FULL_SIZE;
            return sizeFits && numberFits(image[at + NUMBERS_WORD], kind, size > 0)
                    && numberFits(image[at + NUMBERS_WORD + 1], kind, size > INTS);
        }

        private static boolean numberFits(int number, int kind, boolean reached) {
            if (number == 0) {
                return kind == FILE || !reached;
            }
            return reached && Layout.isDataBlock(number);
        }

        private static int repeatedNumbers(int[] image) {
            int repeated = 0;
            for (int q = 0; q < 2 * (INODES - 1); q++) {
                int number = numberInOrder(image, q);
                boolean before = false;
                for (int r = 0; r < q; r++) {
                    before |= numberInOrder(image, r) == number;
                }
                if (number != 0 && before) {
                    repeated++;
                }
            }
            return repeated;
        }

        private static int numberInOrder(int[] image, int q) {
            return image[Layout.inodeAt(1 + q / 2) + NUMBERS_WORD + q % 2];
        }

        private static int badEntries(int[] image) {
            int bad = 0;
            for (int d = 1; d < INODES; d++) {
                int places = placesOf(image, d);
                for (int place = 0; place < places; place++) {
                    if (!isGoodEntry(image, d, place)) {
                        bad++;
                    }
                }
            }
            return bad;
        }

        private static int placesOf(int[] image, int d) {
            return Layout.kindOf(image, d) == DIRECTORY ? Layout.sizeOf(image, d) : 0;
        }

        private static boolean isGoodEntry(int[] image, int d, int place) {
            int entry = image[Layout.intAt(image, d, place)];
            if (entry == 0) {
                return true;
            }
            int name = Layout.nameIn(entry);
            int i = Layout.inodeIn(entry);
            if (name < 1 || name > NAMES || i < 1 || i >= INODES || Layout.kindOf(image, i) == FREE) {
                return false;
            }
            for (int before = 0; before < place; before++) {
                if (Layout.nameIn(image[Layout.intAt(image, d, before)]) == name) {
                    return false;
                }
            }
            return true;
        }

        private void gatherEntries(int[] image) {
            Arrays.fill(entries, 0);
            Arrays.fill(homes, 0);
            for (int d = 1; d < INODES; d++) {
                int places = placesOf(image, d);
                for (int place = 0; place < places; place++) {
                    int i = Layout.inodeIn(image[Layout.intAt(image, d, place)]);
                    if (i != 0) {
                        entries[i]++;
                        homes[i] = homes[i] == 0 ? d : homes[i];
                    }
                }
            }
        }

        private int strayDirectories(int[] image) {
            int stray = entries[ROOT] > 0 ? 1 : 0;
            for (int d = ROOT + 1; d < INODES; d++) {
                if (Layout.kindOf(image, d) == DIRECTORY && (entries[d] != 1 || !comesToRoot(d))) {
                    stray++;
                }
            }
            return stray;
        }

        private boolean comesToRoot(int d) {
            int at = d;
            for (int steps = 0; steps < INODES && at != ROOT && at != 0; steps++) {
                at = homes[at];
            }
            return at == ROOT;
        }

        private int wrongLinks(int[] image) {
            int wrong = 0;
            for (int i = 1; i < INODES; i++) {
                int due = i == ROOT ? 1 : entries[i];
                if (Layout.kindOf(image, i) != FREE && Layout.linksOf(image, i) != due) {
                    wrong++;
                }
            }
            return wrong;
        }

        private static int wrongBits(int[] image) {
            long blocks = (1L << FIRST_DATA) - 1;
            int inodes = 1;
            for (int i = 1; i < INODES; i++) {
                if (Layout.kindOf(image, i) != FREE) {
                    inodes |= 1 << i;
                }
            }
            for (int q = 0; q < 2 * (INODES - 1); q++) {
                int number = numberInOrder(image, q);
                blocks |= number == 0 ? 0L : 1L << number;
            }
            return Integer.bitCount(image[BLOCK_BITS_AT] ^ (int) blocks)
                    + Integer.bitCount(image[BLOCK_BITS_AT + 1] ^ (int) (blocks >>> 32))
                    + Integer.bitCount(image[INODE_BITS_AT] ^ inodes);
        }
    }
}
