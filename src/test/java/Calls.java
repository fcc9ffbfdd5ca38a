/** Makes calls that are written as text, as the issues write them, and tells their answers as text. */
final class Calls {
    private ExtVolume volume = new ExtVolume();
    private final String[] marked = new String[48];

    void renew() {
        volume = new ExtVolume();
    }

    /** Makes the call of a row, "call -> answer" or a call alone; tells what is wrong with its answer, or nothing. */
    String mistakeIn(String row) {
        int arrow = row.indexOf(" -> ");
        String call = arrow < 0 ? row : row.substring(0, arrow).strip();
        String due = arrow < 0 ? "ok" : row.substring(arrow + 4).strip();
        String got = answer(call);
        return got.equals(due) ? "" : call + " answered " + got + ", due is " + due;
    }

    /** The answer, "ok" where there is none, or "throws." and the exception's name. */
    String answer(String call) {
        int open = call.indexOf('(');
        String name = call.substring(0, open).trim();
        String inside = call.substring(open + 1, call.lastIndexOf(')')).trim();
        String[] texts = inside.isEmpty() ? new String[0] : inside.split("\\s*,\\s*");
        try {
            return make(name, texts);
        } catch (IllegalArgumentException | IllegalStateException | java.util.NoSuchElementException
                | UnsupportedOperationException | ArithmeticException e) {
            return "throws." + e.getClass().getSimpleName();
        }
    }

    private String make(String name, String[] texts) {
        boolean directory = texts.length == 3 && texts[2].equals("true");
        int[] a = new int[4];
        for (int k = 0; k < texts.length; k++) {
            a[k] = isBoolean(texts[k]) ? 0 : Integer.parseInt(texts[k]);
        }
        switch (name) {
            case "mount": return "" + volume.mount();
            case "sync": return "" + volume.sync();
            case "create": return "" + volume.create(a[0], a[1], directory);
            case "read": return "" + volume.read(a[0], a[1]);
            case "lookup": return "" + volume.lookup(a[0], a[1]);
            case "raw": return "" + volume.raw(a[0], a[1]);
            case "check": return "" + volume.check(a[0]);
            case "count": return "" + volume.count(a[0]);
            case "block": return block(a[0]);
            case "checks": return checks();
            case "counts": return counts(a[0], a[1]);
            case "nonzero": return nonzero();
            case "changed": return changed();
            default: makeSilent(name, a); return "ok";
        }
    }

    private void makeSilent(String name, int[] a) {
        switch (name) {
            case "format": volume.format(); break;
            case "unmount": volume.unmount(); break;
            case "fuse": volume.fuse(a[0], a[1]); break;
            case "crash": volume.crash(); break;
            case "checkpoint": volume.checkpoint(); break;
            case "link": volume.link(a[0], a[1], a[2]); break;
            case "unlink": volume.unlink(a[0], a[1]); break;
            case "rename": volume.rename(a[0], a[1], a[2], a[3]); break;
            case "write": volume.write(a[0], a[1], a[2]); break;
            case "truncate": volume.truncate(a[0], a[1]); break;
            case "tamper": volume.tamper(a[0], a[1], a[2]); break;
            case "mark": mark(); break;
            default: throw new AssertionError("no such call: " + name);
        }
    }

    private static boolean isBoolean(String text) {
        return text.equals("true") || text.equals("false");
    }

    /** raw of all eight ints of a block. */
    private String block(int b) {
        StringBuilder all = new StringBuilder();
        for (int i = 0; i < 8; i++) {
            all.append(i == 0 ? "" : " ").append(volume.raw(b, i));
        }
        return all.toString();
    }

    /** The numbers of the blocks that have an int but 0. */
    private String nonzero() {
        StringBuilder found = new StringBuilder();
        for (int b = 0; b < marked.length; b++) {
            found.append(block(b).equals("0 0 0 0 0 0 0 0") ? "" : " " + b);
        }
        return found.length() == 0 ? "none" : found.substring(1);
    }

    /** Keeps what the device has, for changed(). */
    private void mark() {
        for (int b = 0; b < marked.length; b++) {
            marked[b] = block(b);
        }
    }

    /** The numbers of the blocks that aren't as they were at mark(). */
    private String changed() {
        StringBuilder found = new StringBuilder();
        for (int b = 0; b < marked.length; b++) {
            found.append(block(b).equals(marked[b]) ? "" : " " + b);
        }
        return found.length() == 0 ? "none" : found.substring(1);
    }

    /** check of all five passes. */
    private String checks() {
        StringBuilder all = new StringBuilder();
        for (int p = 1; p <= 5; p++) {
            all.append(p == 1 ? "" : " ").append(volume.check(p));
        }
        return all.toString();
    }

    /** count from what to what. */
    private String counts(int from, int to) {
        StringBuilder all = new StringBuilder();
        for (int what = from; what <= to; what++) {
            all.append(what == from ? "" : " ").append(volume.count(what));
        }
        return all.toString();
    }
}
