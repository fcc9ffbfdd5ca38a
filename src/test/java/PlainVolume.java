import java.util.ArrayList;
import java.util.Arrays;
import java.util.HashSet;
import java.util.List;
import java.util.Map;
import java.util.NoSuchElementException;
import java.util.Set;
import java.util.TreeMap;
import java.util.TreeSet;

/**
 * The document written out a second time, as plainly as it goes and without a
 * thought of speed, for ModelTest to hold the class against. Where the class
 * marks what it changes, this one compares the images before and after a call.
 */
final class PlainVolume {
    private record Written(int block, int[] ints) { }

    private record Entry(int directory, int name, int inode) { }

    private int[][] device = new int[48][8];
    private int[][] certain = new int[48][8];
    private final List<Written> sinceFlush = new ArrayList<>();
    private boolean fused;
    private int actionsLeft;
    private int mask;
    private int written;
    private int flushes;

    /** Null when it's not mounted. */
    private int[][] memory;
    private final Set<Integer> transaction = new TreeSet<>();
    private final Set<Integer> loose = new TreeSet<>();
    private final Set<Integer> waiting = new HashSet<>();
    private boolean directoryBlockFreed;
    private final Map<Integer, int[]> logged = new TreeMap<>();
    private int sequence;
    private int firstFree;
    private int freePlaces;
    private int commits;
    private int checkpoints;

    // The device.

    private void act() {
        if (fused && actionsLeft == 0) {
            for (int i = 0; i < sinceFlush.size(); i++) {
                if ((mask >> (i % 31) & 1) == 1) {
                    certain[sinceFlush.get(i).block] = sinceFlush.get(i).ints;
                }
            }
            device = copy(certain);
            sinceFlush.clear();
            memory = null;
            fused = false;
            throw new ArithmeticException();
        }
        actionsLeft--;
    }

    private void put(int b, int[] ints) {
        act();
        device[b] = ints.clone();
        sinceFlush.add(new Written(b, ints.clone()));
        written++;
    }

    private void flush() {
        act();
        certain = copy(device);
        sinceFlush.clear();
        flushes++;
    }

    private static int[][] copy(int[][] image) {
        return Arrays.stream(image).map(int[]::clone).toArray(int[][]::new);
    }

    // The image.

    private static int word(int[][] image, int i, int w) {
        return image[2 + i / 2][i % 2 * 4 + w];
    }

    private static int kind(int[][] image, int i) {
        return word(image, i, 0) & 15;
    }

    private static int links(int[][] image, int i) {
        return word(image, i, 0) >>> 4;
    }

    private static int size(int[][] image, int i) {
        return word(image, i, 1);
    }

    private void setWord(int i, int w, int v) {
        memory[2 + i / 2][i % 2 * 4 + w] = v;
    }

    private static List<Integer> inodesOfKind(int[][] image, int kind) {
        List<Integer> found = new ArrayList<>();
        for (int i = 1; i < 16; i++) {
            if (kind(image, i) == kind) {
                found.add(i);
            }
        }
        return found;
    }

    private static Set<Integer> blocksOfKind(int[][] image, int kind) {
        Set<Integer> found = new TreeSet<>();
        for (int i : inodesOfKind(image, kind)) {
            found.add(word(image, i, 2));
            found.add(word(image, i, 3));
        }
        found.remove(0);
        return found;
    }

    private static Set<Integer> dataBlocks(int[][] image) {
        Set<Integer> found = blocksOfKind(image, 1);
        found.addAll(blocksOfKind(image, 2));
        return found;
    }

    /** Ints 0 to 2 of block 1 as they must be. */
    private static int[] bits(int[][] image) {
        int[] due = new int[3];
        Set<Integer> blocks = dataBlocks(image);
        for (int b = 0; b < 48; b++) {
            if (b < 18 || blocks.contains(b)) {
                due[b / 32] |= 1 << (b % 32);
            }
        }
        for (int i = 0; i < 16; i++) {
            if (i == 0 || kind(image, i) != 0) {
                due[2] |= 1 << i;
            }
        }
        return due;
    }

    /** Places of a directory, as block and int. */
    private static List<int[]> places(int[][] image, int d) {
        List<int[]> found = new ArrayList<>();
        for (int k = 0; k < size(image, d); k++) {
            found.add(new int[] {word(image, d, 2 + k / 8), k % 8});
        }
        return found;
    }

    private static List<Entry> entries(int[][] image, int d) {
        List<Entry> found = new ArrayList<>();
        for (int[] place : places(image, d)) {
            int v = image[place[0]][place[1]];
            if (v != 0) {
                found.add(new Entry(d, v & 31, v >>> 5));
            }
        }
        return found;
    }

    private static List<Entry> allEntries(int[][] image) {
        List<Entry> found = new ArrayList<>();
        for (int d : inodesOfKind(image, 2)) {
            found.addAll(entries(image, d));
        }
        return found;
    }

    // The journal.

    private void doCommit() {
        if (!loose.isEmpty()) {
            for (int b : loose) {
                put(b, memory[b]);
            }
            flush();
        }
        loose.clear();
        if (transaction.isEmpty()) {
            return;
        }
        List<Integer> numbers = new ArrayList<>(transaction);
        int n = numbers.size();
        if (freePlaces < n + 2) {
            doCheckpoint();
        }
        int[] header = {1001, sequence, n, 0, 0, 0, 0, 0};
        int sum = 0;
        for (int k = 0; k < n; k++) {
            header[3 + k / 2] += numbers.get(k) * (k % 2 == 0 ? 1 : 64);
            for (int v : memory[numbers.get(k)]) {
                sum = 31 * sum + v;
            }
        }
        putPlace(header);
        for (int b : numbers) {
            putPlace(memory[b]);
            logged.put(b, memory[b].clone());
        }
        flush();
        putPlace(new int[] {1002, sequence, sum, 0, 0, 0, 0, 0});
        flush();
        sequence++;
        commits++;
        if (directoryBlockFreed) {
            doCheckpoint();
        }
        forgetChanges();
    }

    private void putPlace(int[] ints) {
        put(10 + firstFree, ints);
        firstFree = (firstFree + 1) % 8;
        freePlaces--;
    }

    private void forgetChanges() {
        transaction.clear();
        loose.clear();
        waiting.clear();
        directoryBlockFreed = false;
    }

    private void doCheckpoint() {
        if (!logged.isEmpty()) {
            logged.forEach(this::put);
            flush();
        }
        putFirst(2);
        logged.clear();
        freePlaces = 8;
        checkpoints++;
    }

    private void putFirst(int state) {
        put(0, new int[] {61267, state, sequence, firstFree, 0, 0, 0, 0});
        flush();
    }

    private int recover() {
        int start = device[0][3];
        int tail = device[0][2];
        int used = 0;
        int found = 0;
        List<Integer> numbers = numbersAt(start, tail, used);
        while (!numbers.isEmpty()) {
            for (int k = 0; k < numbers.size(); k++) {
                put(numbers.get(k), device[10 + (start + 1 + k) % 8]);
            }
            used += numbers.size() + 2;
            start = (start + numbers.size() + 2) % 8;
            tail++;
            found++;
            numbers = numbersAt(start, tail, used);
        }
        if (found > 0) {
            flush();
        }
        sequence = tail;
        firstFree = start;
        putFirst(2);
        return found;
    }

    /** The numbers of the blocks of the commit there, none if there isn't one. */
    private List<Integer> numbersAt(int start, int tail, int used) {
        int[] header = device[10 + start];
        int n = header[2];
        if (header[0] != 1001 || header[1] != tail || n < 1 || n > 6 || used + n + 2 > 8) {
            return List.of();
        }
        List<Integer> numbers = new ArrayList<>();
        int sum = 0;
        for (int k = 0; k < n; k++) {
            int pair = header[3 + k / 2];
            int number = k % 2 == 0 ? Math.floorMod(pair, 64) : Math.floorDiv(pair, 64);
            if (number < 1 || number > 47 || number > 9 && number < 18) {
                return List.of();
            }
            numbers.add(number);
            for (int v : device[10 + (start + 1 + k) % 8]) {
                sum = 31 * sum + v;
            }
        }
        int[] seal = device[10 + (start + n + 1) % 8];
        return seal[0] == 1002 && seal[1] == tail && seal[2] == sum ? numbers : List.of();
    }

    // The check.

    /** The faults of passes 1 to 5, from element 1 on. */
    private static int[] faults(int[][] image) {
        int[] faults = new int[6];
        faults[1] = faultsOfInodes(image);
        if (faults[1] == 0) {
            faults[2] = faultsOfEntries(image);
        }
        if (faults[1] + faults[2] == 0) {
            faults[3] = faultsOfTree(image);
            faults[4] = faultsOfLinks(image);
            int[] due = bits(image);
            for (int w = 0; w < 3; w++) {
                faults[5] += Integer.bitCount(due[w] ^ image[1][w]);
            }
        }
        return faults;
    }

    private static int faultsOfInodes(int[][] image) {
        int faults = kind(image, 1) == 2 ? 0 : 1;
        Set<Integer> seen = new HashSet<>(Set.of(0));
        for (int i = 1; i < 16; i++) {
            if (isWrong(image, i)) {
                faults++;
            }
            for (int w = 2; w < 4; w++) {
                int number = word(image, i, w);
                if (!seen.add(number) && number != 0) {
                    faults++;
                }
            }
        }
        return faults;
    }

    private static boolean isWrong(int[][] image, int i) {
        int size = size(image, i);
        int kind = kind(image, i);
        if (kind == 0) {
            return word(image, i, 0) != 0 || size != 0 || word(image, i, 2) != 0 || word(image, i, 3) != 0;
        }
        boolean wrong = kind > 2 || links(image, i) == 0;
        wrong |= kind == 1 && (size < 0 || size > 16);
        wrong |= kind == 2 && size != 8 && size != 16;
        for (int w = 0; w < 2; w++) {
            int number = word(image, i, 2 + w);
            wrong |= number != 0 && (number < 18 || number > 47);
            wrong |= number != 0 && 8 * w >= size;
            wrong |= number == 0 && kind == 2 && 8 * w < size;
        }
        return wrong;
    }

    private static int faultsOfEntries(int[][] image) {
        int faults = 0;
        for (int d : inodesOfKind(image, 2)) {
            Set<Integer> names = new HashSet<>();
            for (Entry entry : entries(image, d)) {
                boolean again = !names.add(entry.name);
                if (again || entry.name < 1 || entry.name > 26 || entry.inode == 0 || entry.inode > 15
                        || kind(image, entry.inode) == 0) {
                    faults++;
                }
            }
        }
        return faults;
    }

    private static int faultsOfTree(int[][] image) {
        int faults = entriesOf(image, 1).isEmpty() ? 0 : 1;
        for (int d : inodesOfKind(image, 2)) {
            if (d != 1 && (entriesOf(image, d).size() != 1 || !above(image, d).contains(1))) {
                faults++;
            }
        }
        return faults;
    }

    private static List<Entry> entriesOf(int[][] image, int i) {
        return allEntries(image).stream().filter(entry -> entry.inode == i).toList();
    }

    /** The directory and those come to by going up from it. */
    private static Set<Integer> above(int[][] image, int d) {
        Set<Integer> met = new HashSet<>();
        int at = d;
        while (met.add(at) && !entriesOf(image, at).isEmpty()) {
            at = entriesOf(image, at).get(0).directory;
        }
        return met;
    }

    private static int faultsOfLinks(int[][] image) {
        int faults = 0;
        for (int i = 1; i < 16; i++) {
            int due = i == 1 ? 1 : entriesOf(image, i).size();
            if (kind(image, i) != 0 && links(image, i) != due) {
                faults++;
            }
        }
        return faults;
    }

    // What calls that may change have in common.

    private void change(Runnable edit) {
        needMounted(true);
        if (transaction.size() >= 2) {
            doCommit();
        }
        int[][] before = copy(memory);
        try {
            edit.run();
        } catch (RuntimeException e) {
            memory = before;
            throw e;
        }
        settle(before);
    }

    /** Learns from the image before a call what the call has changed, taken and freed. */
    private void settle(int[][] before) {
        System.arraycopy(bits(memory), 0, memory[1], 0, 3);
        Set<Integer> journalled = blocksOfKind(memory, 2);
        Set<Integer> taken = new HashSet<>(journalled);
        taken.removeAll(dataBlocks(before));
        for (int b = 1; b <= 9; b++) {
            journalled.add(b);
        }
        for (int b : journalled) {
            if (taken.contains(b) || !Arrays.equals(before[b], memory[b])) {
                transaction.add(b);
            }
        }
        for (int b : blocksOfKind(memory, 1)) {
            if (!Arrays.equals(before[b], memory[b])) {
                loose.add(b);
            }
        }
        Set<Integer> freed = dataBlocks(before);
        freed.removeAll(dataBlocks(memory));
        loose.removeAll(freed);
        transaction.removeAll(freed);
        waiting.addAll(freed);
        freed.retainAll(blocksOfKind(before, 2));
        directoryBlockFreed |= !freed.isEmpty();
    }

    private List<Integer> takeable() {
        List<Integer> found = new ArrayList<>();
        for (int b = 18; b < 48; b++) {
            if (!dataBlocks(memory).contains(b) && !waiting.contains(b)) {
                found.add(b);
            }
        }
        return found;
    }

    private int takeBlock() {
        needRoom(!takeable().isEmpty());
        int b = takeable().get(0);
        memory[b] = new int[8];
        return b;
    }

    private void addEntry(int d, int name, int i) {
        int[] at = freePlace(d);
        if (at == null && size(memory, d) == 8) {
            setWord(d, 3, takeBlock());
            setWord(d, 1, 16);
            at = freePlace(d);
        }
        needRoom(at != null);
        memory[at[0]][at[1]] = name + 32 * i;
    }

    private int[] freePlace(int d) {
        return places(memory, d).stream().filter(p -> memory[p[0]][p[1]] == 0).findFirst().orElse(null);
    }

    private int inodeUnder(int d, int name) {
        return entries(memory, d).stream().filter(e -> e.name == name).map(Entry::inode).findFirst().orElse(0);
    }

    private void clearEntry(int d, int name) {
        for (int[] p : places(memory, d)) {
            if ((memory[p[0]][p[1]] & 31) == name) {
                memory[p[0]][p[1]] = 0;
            }
        }
    }

    // What stands against a call.

    private static void needRange(int v, int least, int most) {
        if (v < least || v > most) {
            throw new IllegalArgumentException();
        }
    }

    private void needMounted(boolean due) {
        if (due != (memory != null)) {
            throw new IllegalStateException();
        }
    }

    private static void needThere(boolean there) {
        if (!there) {
            throw new NoSuchElementException();
        }
    }

    private static void needFit(boolean fit) {
        if (!fit) {
            throw new UnsupportedOperationException();
        }
    }

    private static void needRoom(boolean room) {
        if (!room) {
            throw new IllegalStateException();
        }
    }

    private void needKind(int i, int kind) {
        needThere(kind(memory, i) != 0);
        needFit(kind(memory, i) == kind);
    }

    // The face.

    void format() {
        needMounted(false);
        int[][] image = new int[48][8];
        image[0] = new int[] {61267, 1, 1, 0, 0, 0, 0, 0};
        image[2] = new int[] {0, 0, 0, 0, 2 + 16, 8, 18, 0};
        System.arraycopy(bits(image), 0, image[1], 0, 3);
        for (int b = 0; b < 48; b++) {
            put(b, image[b]);
        }
        flush();
    }

    int mount() {
        needMounted(false);
        needFit(device[0][0] == 61267 && device[0][3] >= 0 && device[0][3] <= 7);
        int found = recover();
        needFit(Arrays.stream(faults(device)).sum() == 0);
        memory = copy(device);
        logged.clear();
        freePlaces = 8;
        forgetChanges();
        return found;
    }

    void unmount() {
        checkpoint();
        putFirst(1);
        memory = null;
    }

    void fuse(int n, int mask) {
        needRange(n, -1, 60);
        fused = n >= 0;
        actionsLeft = n;
        this.mask = mask;
    }

    void crash() {
        memory = null;
    }

    int sync() {
        needMounted(true);
        doCommit();
        return sequence;
    }

    void checkpoint() {
        sync();
        doCheckpoint();
    }

    int create(int d, int name, boolean directory) {
        needRange(d, 1, 15);
        needRange(name, 1, 26);
        change(() -> {
            needKind(d, 2);
            needFit(inodeUnder(d, name) == 0);
            needRoom(!inodesOfKind(memory, 0).isEmpty());
            int i = inodesOfKind(memory, 0).get(0);
            setWord(i, 0, (directory ? 2 : 1) + 16);
            if (directory) {
                setWord(i, 1, 8);
                setWord(i, 2, takeBlock());
            }
            addEntry(d, name, i);
        });
        return inodeUnder(d, name);
    }

    void link(int d, int name, int i) {
        needRange(d, 1, 15);
        needRange(name, 1, 26);
        needRange(i, 1, 15);
        change(() -> {
            needThere(kind(memory, d) != 0 && kind(memory, i) != 0);
            needFit(kind(memory, d) == 2 && inodeUnder(d, name) == 0 && kind(memory, i) == 1);
            addEntry(d, name, i);
            setWord(i, 0, word(memory, i, 0) + 16);
        });
    }

    void unlink(int d, int name) {
        needRange(d, 1, 15);
        needRange(name, 1, 26);
        change(() -> {
            int i = lookup(d, name);
            needFit(kind(memory, i) == 1 || entries(memory, i).isEmpty());
            clearEntry(d, name);
            setWord(i, 0, word(memory, i, 0) - 16);
            if (links(memory, i) == 0) {
                for (int w = 0; w < 4; w++) {
                    setWord(i, w, 0);
                }
            }
        });
    }

    void rename(int d, int name, int e, int other) {
        needRange(d, 1, 15);
        needRange(name, 1, 26);
        needRange(e, 1, 15);
        needRange(other, 1, 26);
        change(() -> {
            int i = lookup(d, name);
            needKind(e, 2);
            needFit(inodeUnder(e, other) == 0);
            needFit(!above(memory, e).contains(i));
            addEntry(e, other, i);
            clearEntry(d, name);
        });
    }

    void write(int i, int k, int v) {
        needRange(i, 1, 15);
        needRange(k, 0, 15);
        change(() -> {
            needKind(i, 1);
            if (word(memory, i, 2 + k / 8) == 0) {
                setWord(i, 2 + k / 8, takeBlock());
            }
            memory[word(memory, i, 2 + k / 8)][k % 8] = v;
            setWord(i, 1, Math.max(size(memory, i), k + 1));
        });
        loose.add(word(memory, i, 2 + k / 8));
    }

    void truncate(int i, int n) {
        needRange(i, 1, 15);
        needRange(n, 0, 16);
        change(() -> {
            needKind(i, 1);
            setWord(i, 1, n);
            for (int w = 0; w < 2; w++) {
                if (8 * w >= n) {
                    setWord(i, 2 + w, 0);
                }
                int b = word(memory, i, 2 + w);
                for (int k = 8 * w; b != 0 && k < 8 * w + 8; k++) {
                    memory[b][k % 8] = k < n ? memory[b][k % 8] : 0;
                }
            }
        });
    }

    int read(int i, int k) {
        needRange(i, 1, 15);
        needRange(k, 0, 15);
        needMounted(true);
        needKind(i, 1);
        needThere(k < size(memory, i));
        int b = word(memory, i, 2 + k / 8);
        return b == 0 ? 0 : memory[b][k % 8];
    }

    int lookup(int d, int name) {
        needRange(d, 1, 15);
        needRange(name, 1, 26);
        needMounted(true);
        needKind(d, 2);
        needThere(inodeUnder(d, name) != 0);
        return inodeUnder(d, name);
    }

    int raw(int b, int i) {
        needRange(b, 0, 47);
        needRange(i, 0, 7);
        return device[b][i];
    }

    void tamper(int b, int i, int v) {
        needRange(b, 0, 47);
        needRange(i, 0, 7);
        needMounted(false);
        device[b][i] = v;
        certain[b][i] = v;
    }

    int check(int p) {
        needRange(p, 1, 5);
        needMounted(false);
        return faults(device)[p];
    }

    int count(int what) {
        boolean mounted = memory != null;
        int[] counts = {
            mounted ? 1 : 0, written, fused ? actionsLeft : -1, flushes,
            mounted ? sequence : 0, mounted ? transaction.size() : 0, mounted ? loose.size() : 0,
            mounted ? freePlaces : 0, mounted ? takeable().size() : 0,
            mounted ? inodesOfKind(memory, 0).size() : 0, commits, checkpoints
        };
        return what >= 0 && what < counts.length ? counts[what] : -1;
    }
}
