import java.util.ArrayList;
import java.util.List;
import java.util.Random;

/**
 * Random calls with power going at random: whatever is lost, the volume mounts
 * again, without faults, as it was at some moment since it was last synced.
 */
public final class CrashTest {
    private static final int SEEDS = 400;
    private static final int CALLS = 120;
    private static int wrong = 0;
    private static int losses = 0;
    private static int crashes = 0;

    private final Random random;
    private final int seed;
    private final ExtVolume volume = new ExtVolume();
    /** The trees that the volume had since the last sync, that one's first. */
    private final List<String> trees = new ArrayList<>();

    private CrashTest(int seed) {
        this.seed = seed;
        this.random = new Random(seed);
    }

    public static void main(String[] args) {
        for (int seed = 0; seed < SEEDS; seed++) {
            new CrashTest(seed).run();
        }
        System.out.println(losses + " losses of power, " + crashes + " crashes, " + wrong + " faults");
        if (wrong != 0 || losses < SEEDS || crashes < SEEDS / 4) {
            System.exit(1);
        }
    }

    private void run() {
        volume.format();
        volume.mount();
        remember(true);
        for (int n = 0; n < CALLS; n++) {
            if (random.nextInt(8) == 0) {
                volume.fuse(random.nextInt(25), random.nextInt());
            }
            step();
        }
        volume.fuse(-1, 0);
        volume.unmount();
        checkClean();
    }

    private void step() {
        try {
            int kind = random.nextInt(20);
            if (kind == 0) {
                crashes++;
                volume.crash();
                volume.fuse(-1, 0);
                comeBack();
            } else if (kind == 1) {
                volume.sync();
                remember(true);
            } else if (kind == 2) {
                volume.checkpoint();
                remember(true);
            } else {
                change(kind);
                remember(false);
            }
        } catch (ArithmeticException e) {
            losses++;
            comeBack();
        } catch (IllegalStateException | java.util.NoSuchElementException | UnsupportedOperationException e) {
            remember(false);
        }
    }

    private void change(int kind) {
        int d = someDirectory();
        int name = 1 + random.nextInt(10);
        switch (kind % 8) {
            case 0: volume.create(d, name, true); break;
            case 1: volume.create(d, name, false); break;
            case 2: volume.link(d, name, 1 + random.nextInt(15)); break;
            case 3: volume.unlink(d, name); break;
            case 4: volume.rename(d, name, someDirectory(), 1 + random.nextInt(10)); break;
            case 5: volume.truncate(1 + random.nextInt(15), random.nextInt(17)); break;
            case 6: volume.unlink(d, name); break;
            default: volume.write(1 + random.nextInt(15), random.nextInt(16), random.nextInt(100)); break;
        }
    }

    private int someDirectory() {
        return random.nextInt(3) == 0 ? 1 + random.nextInt(15) : 1;
    }

    private void comeBack() {
        for (int tries = 0; tries < 3; tries++) {
            if (random.nextBoolean()) {
                volume.fuse(random.nextInt(8), random.nextInt());
            }
            try {
                volume.mount();
                break;
            } catch (ArithmeticException e) {
                losses++;
            } catch (UnsupportedOperationException e) {
                fail("unfit after a loss: " + volume.check(1) + volume.check(2) + volume.check(3) + volume.check(4)
                        + volume.check(5));
            }
        }
        if (volume.count(0) == 0) {
            volume.mount();
        }
        volume.fuse(-1, 0);
        if (!trees.contains(tree())) {
            fail("a tree that there wasn't since the last sync");
        }
        remember(true);
    }

    private void remember(boolean alone) {
        if (alone) {
            trees.clear();
        }
        trees.add(tree());
    }

    /** Every directory's names with their inodes, and every file's size. */
    private String tree() {
        StringBuilder tree = new StringBuilder();
        for (int i = 1; i < 16; i++) {
            tree.append(i).append(':');
            try {
                for (int name = 1; name <= 26; name++) {
                    tree.append(nameIn(i, name));
                }
            } catch (UnsupportedOperationException e) {
                tree.append(sizeOf(i));
            }
            tree.append('\n');
        }
        return tree.toString();
    }

    private String nameIn(int d, int name) {
        try {
            return name + "=" + volume.lookup(d, name) + " ";
        } catch (java.util.NoSuchElementException e) {
            return "";
        }
    }

    private int sizeOf(int i) {
        int size = 0;
        try {
            while (size < 16) {
                volume.read(i, size);
                size++;
            }
        } catch (java.util.NoSuchElementException e) {
            return size;
        }
        return size;
    }

    private void checkClean() {
        for (int p = 1; p <= 5; p++) {
            if (volume.check(p) != 0) {
                fail("pass " + p + " finds faults at the end");
            }
        }
    }

    private void fail(String what) {
        wrong++;
        System.out.println("seed " + seed + ": " + what);
    }
}
