import java.util.ArrayList;
import java.util.Arrays;
import java.util.List;

/**
 * Looks at the device alone: what each action of a call writes is learnt from
 * runs in which all of it stays; from that follows what any mask must leave.
 */
public final class FuseTest {
    private static final int[] MASKS = {0, -1, 1, 2, 4, 5, 10, 0x2AAAAAAA, 0x55555555, 0x40000000, Integer.MIN_VALUE, 0x00FF00FF};
    private static int right = 0;
    private static int wrong = 0;

    public static void main(String[] args) {
        lookAt("format()", "tamper(5, 5, 5)", "tamper(36, 2, 2)", "tamper(31, 1, 1)", "tamper(47, 0, 3)");
        lookAt("mount()", "format()");
        lookAt("mount()", "format()", "mount()", "create(1, 1, false)", "sync()", "truncate(2, 5)", "sync()", "crash()");
        lookAt("sync()", "format()", "mount()", "create(1, 1, false)");
        lookAt("sync()", "format()", "mount()", "create(1, 1, true)", "create(2, 1, false)", "write(3, 0, 1)",
                "write(3, 8, 2)");
        lookAt("create(1, 2, false)", "format()", "mount()", "create(1, 1, false)", "write(2, 0, 1)", "sync()",
                "write(2, 0, 2)", "write(2, 8, 2)");
        lookAt("unmount()", "format()", "mount()", "create(1, 1, true)", "sync()", "unlink(1, 1)");
        lookAt("checkpoint()", "format()", "mount()", "create(1, 1, true)", "sync()", "create(2, 9, false)");
        lookAt("truncate(3, 0)", "format()", "mount()", "create(1, 1, true)", "create(1, 2, false)", "write(3, 4, 4)");
        System.out.println(right + " answers as due, " + wrong + " not");
        if (wrong != 0) {
            System.exit(1);
        }
    }

    private static void lookAt(String call, String... before) {
        List<String> images = new ArrayList<>();
        List<Integer> flushes = new ArrayList<>();
        String answer = "throws.ArithmeticException";
        for (int n = 0; n <= 60 && answer.equals("throws.ArithmeticException"); n++) {
            Calls calls = prepare(before, n, -1);
            answer = calls.answer(call);
            images.add(imageOf(calls));
            flushes.add(Integer.parseInt(calls.answer("count(3)")));
        }
        due(call + " ends", answer.startsWith("throws") ? 0 : 1, 1);
        for (int n = 0; n < images.size() - 1; n++) {
            for (int mask : MASKS) {
                compare(call, before, n, mask, images, flushes);
            }
        }
    }

    private static void compare(String call, String[] before, int n, int mask, List<String> images, List<Integer> flushes) {
        Calls calls = prepare(before, n, mask);
        String what = call + " with fuse(" + n + ", " + mask + ")";
        int writesBefore = Integer.parseInt(calls.answer("count(1)"));
        int flushesBefore = Integer.parseInt(calls.answer("count(3)"));
        due(what + " loses power", calls.answer(call).equals("throws.ArithmeticException") ? 1 : 0, 1);
        due(what + ": count(0)", Integer.parseInt(calls.answer("count(0)")), 0);
        due(what + ": count(2)", Integer.parseInt(calls.answer("count(2)")), -1);
        int actions = Integer.parseInt(calls.answer("count(1)")) - writesBefore
                + Integer.parseInt(calls.answer("count(3)")) - flushesBefore;
        due(what + ": actions", actions, n);
        due(what + ": image", imageOf(calls).equals(predict(n, mask, images, flushes)) ? 1 : 0, 1);
    }

    private static String predict(int n, int mask, List<String> images, List<Integer> flushes) {
        int flushed = n;
        while (flushed > 0 && flushes.get(flushed - 1).equals(flushes.get(n))) {
            flushed--;
        }
        String[] blocks = images.get(flushed).split("\n");
        for (int k = flushed; k < n; k++) {
            String[] from = images.get(k).split("\n");
            String[] to = images.get(k + 1).split("\n");
            for (int b = 0; b < to.length; b++) {
                if (!from[b].equals(to[b]) && (mask >>> ((k - flushed) % 31) & 1) == 1) {
                    blocks[b] = to[b];
                }
            }
        }
        return String.join("\n", blocks);
    }

    private static Calls prepare(String[] before, int n, int mask) {
        Calls calls = new Calls();
        Arrays.stream(before).forEach(calls::answer);
        calls.answer("fuse(" + n + ", " + mask + ")");
        return calls;
    }

    private static String imageOf(Calls calls) {
        List<String> blocks = new ArrayList<>();
        for (int b = 0; b < 48; b++) {
            blocks.add(calls.answer("block(" + b + ")"));
        }
        return String.join("\n", blocks);
    }

    private static void due(String what, int got, int want) {
        if (got == want) {
            right++;
        } else {
            wrong++;
            System.out.println(what + " answered " + got + ", due is " + want);
        }
    }
}
