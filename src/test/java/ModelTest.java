import java.lang.reflect.InvocationTargetException;
import java.lang.reflect.Method;
import java.util.ArrayDeque;
import java.util.Arrays;
import java.util.Deque;
import java.util.HashMap;
import java.util.Map;
import java.util.Random;
import java.util.Set;
import java.util.TreeSet;

/**
 * Random calls, most of them sensible, some out of range or on a tampered
 * device: the class answers as the document's second writing, PlainVolume, does.
 */
public final class ModelTest {
    private static final int SEEDS = 3000;
    private static final int MOST_CALLS = 512;
    /** The calls that are left over at the end of a run for the whole device and what check finds in it. */
    private static final int LAST_CALLS = 48 * 8 + 6;
    private static final Map<String, Method> CLASS_METHODS = methodsOf(ExtVolume.class);
    private static final Map<String, Method> MODEL_METHODS = methodsOf(PlainVolume.class);
    /** Each method with each way that one of its calls has ended. */
    private static final Set<String> ENDS = new TreeSet<>();
    private static int answers = 0;
    private static int wrong = 0;

    private final int seed;
    private final Random random;
    private final ExtVolume volume = new ExtVolume();
    private final PlainVolume model = new PlainVolume();
    /** What was there before it was tampered with, latest first. */
    private final Deque<Object[]> before = new ArrayDeque<>();
    private int calls = 0;
    private boolean same = true;

    private ModelTest(int seed) {
        this.seed = seed;
        this.random = new Random(seed);
    }

    public static void main(String[] args) {
        for (int seed = 0; seed < SEEDS; seed++) {
            new ModelTest(seed).run();
        }
        for (Method method : CLASS_METHODS.values()) {
            for (Class<?> exception : method.getExceptionTypes()) {
                if (!ENDS.contains(method.getName() + " " + exception.getSimpleName())) {
                    wrong++;
                    System.out.println("no call of " + method.getName() + " met " + exception.getSimpleName());
                }
            }
        }
        System.out.println(answers + " answers of " + SEEDS + " runs, " + wrong + " faults");
        if (wrong != 0) {
            System.exit(1);
        }
    }

    private static Map<String, Method> methodsOf(Class<?> type) {
        Map<String, Method> methods = new HashMap<>();
        for (Method method : type.getDeclaredMethods()) {
            if (Arrays.stream(ExtVolume.class.getMethods()).anyMatch(m -> m.getName().equals(method.getName()))) {
                methods.put(method.getName(), method);
            }
        }
        return methods;
    }

    private void run() {
        make("format");
        make("mount");
        while (same && calls < MOST_CALLS - LAST_CALLS) {
            step();
        }
        make("crash");
        for (int at = 0; same && at < 48 * 8; at++) {
            make("raw", at / 8, at % 8);
        }
        for (int p = 1; same && p <= 5; p++) {
            make("check", p);
        }
    }

    private void step() {
        int what = random.nextInt(100);
        if (what < 12) {
            make("count", random.nextInt(14) - 1);
        } else if (what < 18) {
            make("fuse", random.nextInt(30) == 0 ? someWrong(60) : random.nextInt(random.nextInt(4) == 0 ? 62 : 26) - 1,
                    random.nextInt());
        } else if (what < 20) {
            make("raw", someOf(0, 47), someOf(0, 7));
        } else if ((model.count(0) == 1) == (what < 97)) {
            stepMounted();
        } else {
            stepNotMounted();
        }
    }

    private void stepMounted() {
        switch (random.nextInt(24)) {
            case 0: make("sync"); break;
            case 1: make("checkpoint"); break;
            case 2: make(random.nextBoolean() ? "unmount" : "crash"); break;
            case 3: case 4: case 5: make("create", someDirectory(), someName(), true); break;
            case 6: case 7: case 8: make("create", someDirectory(), someName(), false); break;
            case 9: make("link", someDirectory(), someName(), someInode()); break;
            case 10: case 11: case 12: make("unlink", someDirectory(), someName()); break;
            case 13: case 14: make("rename", someDirectory(), someName(), someDirectory(), someName()); break;
            case 15: case 16: case 17: case 18: make("write", someInode(), someOf(0, 15), random.nextInt(3)); break;
            case 19: case 20: make("truncate", someInode(), someOf(0, 16)); break;
            case 21: case 22: make("read", someInode(), someOf(0, 15)); break;
            default: make("lookup", someDirectory(), someName()); break;
        }
    }

    private void stepNotMounted() {
        int what = random.nextInt(10);
        if (what < 4) {
            make("mount");
        } else if (what < 7) {
            make("check", someOf(1, 5));
        } else if (what == 7 && random.nextInt(8) == 0) {
            make("format");
        } else if (before.isEmpty() || random.nextInt(3) == 0) {
            tamper();
        } else {
            make("tamper", before.pop());
        }
    }

    private void tamper() {
        int[] blocks = {0, 1, 2, 2 + random.nextInt(8), 3, 10 + random.nextInt(8), 18, 18 + random.nextInt(4), someOf(0, 47)};
        int b = blocks[random.nextInt(blocks.length)];
        int i = someOf(0, 7);
        int old = b >= 0 && b < 48 && i >= 0 && i < 8 ? model.raw(b, i) : 0;
        int[] values = {0, old + 1, old - 1, old ^ 1 << random.nextInt(32), -old, old + 32, 18 + random.nextInt(3), 8, 16, 17, 18,
            someName() + 32 * random.nextInt(6), random.nextInt(48) + 64 * random.nextInt(48), random.nextInt()};
        before.push(new Object[] {b, i, old});
        make("tamper", b, i, values[random.nextInt(values.length)]);
    }

    private int someOf(int least, int most) {
        return random.nextInt(60) == 0 ? someWrong(most) : least + random.nextInt(most - least + 1);
    }

    private int someWrong(int most) {
        int[] wrongs = {-2, most + 1, Integer.MIN_VALUE, Integer.MAX_VALUE};
        return wrongs[random.nextInt(wrongs.length)];
    }

    private int someInode() {
        return random.nextInt(4) == 0 ? someOf(0, 16) : 2 + random.nextInt(5);
    }

    private int someDirectory() {
        return random.nextInt(3) == 0 ? someInode() : 1;
    }

    private int someName() {
        return random.nextInt(8) == 0 ? someOf(0, 27) : 1 + random.nextInt(9);
    }

    private void make(String name, Object... arguments) {
        calls++;
        String got = answer(CLASS_METHODS.get(name), volume, arguments);
        String due = answer(MODEL_METHODS.get(name), model, arguments);
        ENDS.add(name + " " + due);
        answers++;
        if (!got.equals(due)) {
            same = false;
            wrong++;
            System.out.println("seed " + seed + ", call " + calls + ": " + name + Arrays.toString(arguments) + " answered "
                    + got + ", due is " + due);
        }
    }

    private static String answer(Method method, Object target, Object[] arguments) {
        try {
            return "" + method.invoke(target, arguments);
        } catch (InvocationTargetException e) {
            return e.getCause().getClass().getSimpleName();
        } catch (IllegalAccessException e) {
            throw new AssertionError(e);
        }
    }
}
