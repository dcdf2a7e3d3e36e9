import java.lang.reflect.Method;
import java.util.ArrayList;
import java.util.List;

/** Parks that the tests begin with, and what can be seen of one from outside. */
final class Parks {
    static final int BEYOND = -1000001;
    static final int FULL = -1000002;
    static final int KIND = -1000003;
    static final int NONE = -1000004;
    static final int STATE = -1000005;
    static final int MISSING = -1000006;
    static final int SIZE = -1000007;

    private Parks() {
    }

    static long set(int... cells) {
        long set = 0;
        for (int c : cells) {
            set |= 1L << c;
        }
        return set;
    }

    /** A park with path of 50 on these cells. */
    static SownPaths paths(int... cells) {
        SownPaths x = new SownPaths();
        for (int c : cells) {
            x.tread(c, 50);
        }
        return x;
    }

    /** A park with path of v on all its cells. */
    static SownPaths trodden(int v) {
        SownPaths x = new SownPaths();
        for (int c = 0; c < 36; c++) {
            x.tread(c, v);
        }
        return x;
    }

    static void feed(SownPaths x, String text) {
        for (int i = 0; i < text.length(); i++) {
            x.feed(text.charAt(i), 1);
        }
    }

    static int read(SownPaths x, String text) {
        feed(x, text);
        return x.text();
    }

    static void row(SownPaths x, int s, int bits, int... numbers) {
        x.sheet(s, bits, numbers.length);
        for (int i = 0; i < numbers.length; i++) {
            x.write(s, i, numbers[i]);
        }
    }

    /** Something of everything: seeds 0 to 2, spots 0 and 9, four sheets, an image, bytes on the tape. */
    static SownPaths busy() {
        SownPaths x = paths(0, 1, 2, 12, 13, 14, 20, 26);
        x.ground(3, 1);
        x.ground(8, 2);
        x.sow(0, 14, 1);
        x.sow(3, 20, 2);
        x.sow(6, 33, 3);
        x.change(1, 3, 2);
        x.hold(0, 0);
        x.hold(9, 2);
        x.seed(77);
        x.go(1);
        x.image();
        x.seed(-5);
        x.go(1);
        x.tread(30, 9);
        row(x, 0, 8, 12, 13, 14);
        row(x, 1, 8, 5, 6, 7, 8);
        row(x, 2, 32, 20, 26);
        row(x, 3, 16, 1, 2, 3, 4);
        feed(x, "seed 9");
        return x;
    }

    /** No room for another seed. */
    static SownPaths crowded() {
        SownPaths x = new SownPaths();
        for (int i = 0; i < 8; i++) {
            x.sow(i % 7, 4 * i, i % 4);
        }
        return x;
    }

    /** The tape has this many bytes: texts of a seed, and what is left of one. */
    static SownPaths taped(int bytes) {
        SownPaths x = new SownPaths();
        feed(x, "seed 7;wall 8;path 9 9;".repeat(6).substring(0, bytes));
        return x;
    }

    static long call(SownPaths x, String name, int... args) {
        for (Method m : SownPaths.class.getDeclaredMethods()) {
            if (m.getName().equals(name) && m.getParameterCount() == args.length) {
                return call(x, m, args);
            }
        }
        throw new IllegalArgumentException(name);
    }

    private static long call(SownPaths x, Method m, int... args) {
        Object[] values = new Object[args.length];
        for (int i = 0; i < args.length; i++) {
            values[i] = args[i];
        }
        try {
            return ((Number) m.invoke(x, values)).longValue();
        } catch (ReflectiveOperationException e) {
            throw new IllegalStateException(m + " threw", e);
        }
    }

    /** All that can be asked without changing more than status(), in less than a hundred calls. */
    private static void look(SownPaths x, List<Long> seen) {
        for (int what = 0; what <= 7; what++) {
            seen.add((long) x.count(what));
        }
        for (int what = 0; what <= 2; what++) {
            seen.add(x.where(what));
        }
        for (int c = 0; c < 36; c++) {
            seen.add((long) x.cell(c, 1));
        }
        for (int seed = 0; seed < x.count(1); seed++) {
            for (int what = 0; what <= 3; what++) {
                seen.add((long) x.of(seed, what));
            }
        }
        for (int spot = 0; spot <= 9; spot++) {
            seen.add((long) x.as(spot, 0));
        }
        for (int s = 0; s <= 3; s++) {
            seen.add((long) x.judge(s));
        }
    }

    /**
     * All that a park holds. It is used up by this: the sheets are seen by
     * loading them, the tape by reading it, the image by going back to it.
     */
    static List<Long> allOf(SownPaths x) {
        List<Long> seen = new ArrayList<>();
        look(x, seen);
        for (int s = 0; s <= 3; s++) {
            seen.add((long) x.load(s));
            for (int c = 0; c < 6; c++) {
                seen.add((long) x.cell(c, 1));
            }
        }
        seen.add((long) x.text());
        seen.add((long) x.count(1));
        seen.add((long) x.undo());
        look(x, seen);
        return seen;
    }

    /** status(-1), status(0), .. status(6). */
    static int[] told(SownPaths x) {
        int[] told = new int[8];
        for (int which = -1; which <= 6; which++) {
            told[which + 1] = x.status(which);
        }
        return told;
    }
}
