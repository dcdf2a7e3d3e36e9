import java.util.Arrays;
import java.util.function.Supplier;

/**
 * Refused calls: each finding that a promise names, on both sides of each
 * bound, in the order in which they are asked. A call that answers a finding
 * is counted once, and else leaves a park like one that was never asked.
 */
public final class RefusedTest {
    private static final int BEYOND = Parks.BEYOND;
    private static final int FULL = Parks.FULL;
    private static final int KIND = Parks.KIND;
    private static final int NONE = Parks.NONE;
    private static final int STATE = Parks.STATE;
    private static final int MISSING = Parks.MISSING;
    private static final int SIZE = Parks.SIZE;
    private static final int MIN = Integer.MIN_VALUE;
    private static final int MAX = Integer.MAX_VALUE;

    private static final int[] CELL = {0, 35};
    private static final int[] SEED = {0, 2};
    private static final int[] SEASONS = {0, 60};
    private static final int[] SHEET = {0, 3};
    private static final int[] ANY = {MIN, MAX};

    private static final Supplier<SownPaths> BUSY = Parks::busy;
    private static final Supplier<SownPaths> NEW = SownPaths::new;

    private static final Check CHECK = new Check();

    public static void main(String[] args) {
        park();
        seasonsAndWays();
        whatWillBe();
        laid();
        dogsAndTape();
        spotsAndSheets();
        sheetsOfTheirOwn();
        copies();
        images();
        full();
        nothingThere();
        ordered();
        asking();
        faults();
        CHECK.end();
    }

    private static String say(String name, int... args) {
        return name + Arrays.toString(args);
    }

    /** The call answers this finding; status() alone tells of it. */
    private static void refused(Supplier<SownPaths> made, int finding, String name, int... args) {
        SownPaths x = made.get();
        SownPaths never = made.get();
        CHECK.due(say(name, args), Parks.call(x, name, args), finding);
        int[] due = Parks.told(never);
        due[0]++;
        due[1 + BEYOND - finding]++;
        int[] told = Parks.told(x);
        CHECK.holds(say(name, args) + " is counted once: " + Arrays.toString(told), Arrays.equals(told, due));
        CHECK.holds(say(name, args) + " changes nothing", Parks.allOf(x).equals(Parks.allOf(never)));
    }

    /** The call answers no finding and changes nothing at all. */
    private static void asked(String name, int... args) {
        SownPaths x = Parks.busy();
        SownPaths never = Parks.busy();
        CHECK.holds(say(name, args) + " is no finding", Parks.call(x, name, args) > -1000000);
        CHECK.holds(say(name, args) + " is not counted", Arrays.equals(Parks.told(x), Parks.told(never)));
        CHECK.holds(say(name, args) + " changes nothing", Parks.allOf(x).equals(Parks.allOf(never)));
    }

    /**
     * In the busy park: each argument just outside its bounds is BEYOND, the
     * others being as they are given; on its bounds it isn't.
     */
    private static void bounds(String name, int[] args, int[]... bounds) {
        for (int k = 0; k < args.length; k++) {
            int[] given = args.clone();
            if (bounds[k] == ANY) {
                continue;
            }
            for (int v : outside(bounds[k])) {
                given[k] = v;
                refused(BUSY, BEYOND, name, given);
            }
            for (int v : bounds[k]) {
                given[k] = v;
                CHECK.holds(say(name, given) + " is not BEYOND", Parks.call(Parks.busy(), name, given) != BEYOND);
            }
        }
    }

    /** Just outside, far outside, and where a shift of 32 or 64 bits would come round to what is inside. */
    private static int[] outside(int[] bounds) {
        int[] near = {bounds[0] - 1, bounds[1] + 1, MIN, MAX, MIN + bounds[1], bounds[0] + 64, bounds[0] - 64,
            bounds[0] + 32, bounds[0] - 32};
        return Arrays.stream(near).filter(v -> v < bounds[0] || v > bounds[1]).toArray();
    }

    private static int[] args(int... args) {
        return args;
    }

    private static void park() {
        bounds("ground", args(7, 1), CELL, args(0, 2));
        bounds("cell", args(7, 1), CELL, args(0, 3));
        bounds("tread", args(7, 5), CELL, args(0, 99));
        bounds("sow", args(1, 7, 1), args(0, 6), CELL, args(0, 3));
        bounds("of", args(1, 1), SEED, args(0, 7));
        bounds("change", args(1, 0, 2), SEED, args(0, 3), args(0, 6));
        bounds("change", args(1, 1, 2), SEED, args(0, 3), CELL);
        bounds("change", args(1, 2, 2), SEED, args(0, 3), args(0, 3));
        bounds("change", args(1, 3, 2), SEED, args(0, 3), args(0, 999));
        bounds("apart", args(7, 8), CELL, CELL);
        refused(BUSY, STATE, "tread", 3, 5);
        refused(BUSY, STATE, "tread", 8, 5);
        refused(BUSY, STATE, "tread", 3, 0);
        refused(NEW, BEYOND, "of", 0, 0);
        refused(NEW, BEYOND, "change", 0, 0, 0);
    }

    private static void seasonsAndWays() {
        bounds("go", args(3), args(1, 40));
        bounds("now", args(1), args(0, 4));
        bounds("where", args(1), args(0, 3));
        bounds("way", args(12, 14), CELL, CELL);
        bounds("joined", args(12), CELL);
        bounds("parts", args(12, 14), CELL, CELL);
        bounds("bridges", args(12, 14), CELL, CELL);
        bounds("mend", args(12, 14), CELL, CELL);
        refused(BUSY, NONE, "way", 12, 35);
        refused(BUSY, NONE, "way", 35, 12);
        refused(BUSY, NONE, "way", 35, 35);
        refused(BUSY, NONE, "way", 0, 12);
        refused(BUSY, NONE, "parts", 12, 13);
        refused(BUSY, NONE, "parts", 12, 12);
        refused(BUSY, NONE, "parts", 0, 12);
        refused(BUSY, NONE, "parts", 35, 35);
        refused(BUSY, NONE, "mend", 0, 3);
        refused(BUSY, NONE, "mend", 8, 0);
        refused(BUSY, NONE, "mend", 8, 8);
    }

    private static void whatWillBe() {
        bounds("ahead", args(7, 5), CELL, SEASONS);
        bounds("head", args(1, 5), SEED, SEASONS);
        bounds("when", args(12, 14), CELL, CELL);
        bounds("there", args(5), SEASONS);
        bounds("kindFor", args(1, 5), SEED, SEASONS);
        bounds("headingFor", args(1, 5), SEED, SEASONS);
        bounds("sowFor", args(1, 12, 14, 5), args(0, 6), CELL, CELL, args(0, 30));
        bounds("without", args(5), SEASONS);
        refused(BUSY, NONE, "when", 3, 12);
        refused(BUSY, NONE, "when", 8, 8);
        refused(NEW, NONE, "when", 0, 0);
        refused(() -> Parks.trodden(61), NONE, "bare");
        refused(() -> Parks.trodden(99), NONE, "bare");
        refused(BUSY, NONE, "sowFor", 0, 3, 3, 30);
        refused(BUSY, NONE, "sowFor", 0, 34, 35, 0);
        refused(Parks::crowded, FULL, "sowFor", 0, 12, 14, 5);
        refused(NEW, NONE, "without", 0);
        refused(NEW, NONE, "without", 60);
        refused(NEW, NONE, "weed");
        refused(NEW, BEYOND, "head", 0, 0);
        refused(NEW, BEYOND, "kindFor", 0, 0);
        refused(NEW, BEYOND, "headingFor", 0, 0);
    }

    private static void laid() {
        for (String name : new String[] {"fits", "headings"}) {
            bounds(name, args(1, 1, 7), SHEET, SEED, CELL);
            for (int s = 0; s < 4; s++) {
                refused(NEW, MISSING, name, s, 0, 0);
            }
            refused(Parks::crowded, MISSING, name, 0, 0, 0);
        }
    }

    private static void dogsAndTape() {
        bounds("dogs", args(3), args(1, 20));
        bounds("odds", args(3, 0), args(0, 11), args(0, 1));
        bounds("feed", args(7, 3), ANY, args(1, 4));
        for (int n = 1; n <= 4; n++) {
            int free = n - 1;
            refused(() -> Parks.taped(120 - free), FULL, "feed", 0x73737373, n);
            int fits = 120 - n;
            CHECK.due("up to 120 by " + n, Parks.taped(fits).feed(0x73737373, n), 120);
        }
        refused(() -> Parks.taped(120), FULL, "feed", -1, 4);
    }

    private static void spotsAndSheets() {
        bounds("hold", args(5, 1), args(0, 9), args(-1, 2));
        bounds("as", args(9, 6), args(0, 9), args(0, 6));
        bounds("sheet", args(1, 8, 3), SHEET, ANY, ANY);
        bounds("write", args(1, 1, 3), SHEET, args(0, 3), ANY);
        bounds("load", args(1), SHEET);
        bounds("judge", args(1), SHEET);
        refused(NEW, BEYOND, "hold", 0, 0);
        for (int spot = 0; spot <= 9; spot++) {
            refused(NEW, MISSING, "as", spot, 0);
        }
        refused(BUSY, MISSING, "as", 1, 0);
        refused(BUSY, KIND, "as", 0, 1);
        refused(BUSY, KIND, "as", 9, 2);
        refused(BUSY, KIND, "as", 9, 5);
        for (int s = 0; s < 4; s++) {
            refused(NEW, MISSING, "write", s, 0, 0);
            refused(NEW, MISSING, "load", s);
            refused(NEW, MISSING, "judge", s);
        }
    }

    private static void sheetsOfTheirOwn() {
        for (int bits : new int[] {MIN, -32, -8, -1, 1, 7, 9, 15, 17, 24, 31, 33, 64, 128, 256, MAX}) {
            refused(BUSY, BEYOND, "sheet", 1, bits, 3);
        }
        for (int bits : new int[] {0, 8, 16, 32}) {
            for (int n : new int[] {-1, MIN}) {
                refused(BUSY, SIZE, "sheet", 1, bits, n);
                refused(NEW, SIZE, "sheet", 1, bits, n);
            }
            for (int n : new int[] {41, MAX}) {
                refused(BUSY, BEYOND, "sheet", 1, bits, n);
                refused(NEW, BEYOND, "sheet", 1, bits, n);
            }
            for (int n : new int[] {0, 40}) {
                CHECK.due("sheet, of " + bits + " bits", Parks.busy().sheet(1, bits, n), bits == 0 ? 0 : n);
            }
        }
    }

    private static void copies() {
        // Sheet 0 has three numbers of 8 bits, sheet 1 four; the others have more bits.
        bounds("copy", args(0, 0, 1, 0, 0), SHEET, args(0, 3), SHEET, args(0, 4), args(0, 3));
        refused(NEW, MISSING, "copy", 0, 0, 1, 0, 0);
        Supplier<SownPaths> one = () -> {
            SownPaths x = Parks.busy();
            x.sheet(1, 0, 0);
            return x;
        };
        refused(one, MISSING, "copy", 0, 0, 1, 0, 0);
        refused(one, MISSING, "copy", 1, 0, 0, 0, 0);
        refused(one, MISSING, "copy", 1, 0, 1, 0, 0);
        refused(BUSY, KIND, "copy", 0, 0, 2, 0, 0);
        refused(BUSY, KIND, "copy", 2, 0, 3, 0, 1);
        refused(BUSY, KIND, "copy", 3, 0, 1, 0, 1);
        refused(BUSY, BEYOND, "copy", 0, 1, 1, 0, 3);
        refused(BUSY, BEYOND, "copy", 1, 0, 0, 0, 4);
        refused(BUSY, BEYOND, "copy", 1, 0, 0, 1, 3);
        refused(BUSY, BEYOND, "copy", 1, 2, 1, 0, 3);
        refused(BUSY, BEYOND, "copy", 0, -1, 1, 0, 2);
        refused(BUSY, BEYOND, "copy", 0, 0, 1, -1, 2);
        refused(BUSY, BEYOND, "copy", 0, 1, 1, 1, -1);
        refused(BUSY, BEYOND, "copy", 0, 1, 1, 0, MAX);
        refused(BUSY, BEYOND, "copy", 0, MAX, 1, MAX, MAX);
        refused(BUSY, BEYOND, "copy", 0, 0, 1, MAX, 1);
        refused(BUSY, BEYOND, "copy", 0, MAX, 1, 0, 1);
    }

    private static void images() {
        refused(NEW, NONE, "undo");
        refused(Parks::crowded, NONE, "undo");
        Supplier<SownPaths> torn = () -> {
            SownPaths x = Parks.busy();
            x.tear();
            return x;
        };
        refused(torn, NONE, "undo");
        bounds("count", args(1), args(0, 7));
        bounds("status", args(1), args(-1, 6));
    }

    private static void full() {
        refused(Parks::crowded, FULL, "sow", 0, 0, 0);
        Supplier<SownPaths> dead = () -> {
            SownPaths x = Parks.crowded();
            for (int i = 0; i < 8; i++) {
                x.change(i, 3, 999);
            }
            return x;
        };
        refused(dead, FULL, "sow", 6, 35, 3);
        refused(dead, FULL, "sowFor", 6, 35, 35, 3);
    }

    /** What isn't there cannot be asked after, though its number is in bounds. */
    private static void nothingThere() {
        for (int seed = 0; seed < 8; seed++) {
            refused(NEW, BEYOND, "of", seed, 0);
            refused(NEW, BEYOND, "hold", 9, seed);
        }
        Supplier<SownPaths> back = () -> {
            SownPaths x = new SownPaths();
            x.sow(0, 0, 0);
            x.image();
            x.sow(0, 7, 0);
            x.undo();
            return x;
        };
        refused(back, BEYOND, "of", 1, 0);
        refused(back, BEYOND, "change", 1, 0, 0);
        refused(back, BEYOND, "head", 1, 0);
        refused(back, BEYOND, "hold", 0, 1);
        Supplier<SownPaths> empty = () -> {
            SownPaths x = new SownPaths();
            x.sheet(0, 8, 0);
            return x;
        };
        refused(empty, BEYOND, "write", 0, 0, 0);
        refused(empty, BEYOND, "copy", 0, 0, 0, 0, 1);
        refused(empty, BEYOND, "copy", 0, 1, 0, 0, 0);
        refused(empty, BEYOND, "copy", 0, 0, 0, 1, 0);
        refused(empty, BEYOND, "fits", 0, 0, 0);
        refused(empty, BEYOND, "headings", 0, 0, 0);
    }

    /** Of two findings the one that is asked first. */
    private static void ordered() {
        refused(BUSY, BEYOND, "tread", 3, 100);
        refused(BUSY, BEYOND, "tread", 8, -1);
        refused(Parks::crowded, BEYOND, "sow", 7, 0, 0);
        refused(Parks::crowded, BEYOND, "sow", 0, 36, 0);
        refused(Parks::crowded, BEYOND, "sow", 0, 0, 4);
        refused(Parks::crowded, BEYOND, "sowFor", 7, 0, 0, 0);
        refused(Parks::crowded, BEYOND, "sowFor", 0, 36, 0, 0);
        refused(Parks::crowded, BEYOND, "sowFor", 0, 0, 36, 0);
        refused(Parks::crowded, BEYOND, "sowFor", 0, 0, 0, 31);
        refused(Parks::crowded, FULL, "sowFor", 0, 34, 35, 0);
        refused(NEW, BEYOND, "without", 61);
        refused(NEW, BEYOND, "without", -1);
        refused(BUSY, BEYOND, "way", 35, 36);
        refused(BUSY, BEYOND, "parts", 35, 36);
        refused(BUSY, BEYOND, "mend", 8, 36);
        refused(BUSY, BEYOND, "when", 8, 36);
        for (String name : new String[] {"fits", "headings"}) {
            refused(NEW, BEYOND, name, 4, 0, 0);
            refused(NEW, BEYOND, name, -1, 0, 0);
            refused(NEW, MISSING, name, 0, 0, 36);
            refused(NEW, MISSING, name, 0, 8, 0);
            refused(NEW, MISSING, name, 0, -1, -1);
        }
        refused(() -> Parks.taped(120), BEYOND, "feed", 0, 5);
        refused(() -> Parks.taped(120), BEYOND, "feed", 0, 0);
        refused(NEW, BEYOND, "as", 0, 7);
        refused(NEW, BEYOND, "as", 10, 0);
        refused(NEW, BEYOND, "sheet", 4, 8, -1);
        refused(NEW, BEYOND, "sheet", -1, 8, -1);
        refused(NEW, BEYOND, "sheet", 0, 9, -1);
        refused(NEW, BEYOND, "write", 4, 0, 0);
        refused(NEW, MISSING, "write", 0, -1, 0);
        refused(NEW, MISSING, "write", 0, 40, 0);
        refused(NEW, BEYOND, "copy", 0, 0, 4, 0, 0);
        refused(NEW, BEYOND, "copy", 4, 0, 0, 0, 0);
        refused(NEW, BEYOND, "copy", 0, 0, -1, 0, 0);
        refused(NEW, MISSING, "copy", 0, -1, 1, -1, -1);
        Supplier<SownPaths> one = () -> {
            SownPaths x = new SownPaths();
            x.sheet(0, 8, 3);
            return x;
        };
        refused(one, MISSING, "copy", 0, 0, 1, 0, 99);
        refused(one, MISSING, "copy", 1, 0, 0, 0, 99);
        refused(one, BEYOND, "copy", 1, 0, 4, 0, 0);
        refused(BUSY, KIND, "copy", 0, -1, 2, 0, 0);
        refused(BUSY, KIND, "copy", 0, 0, 2, -1, 0);
        refused(BUSY, KIND, "copy", 0, 0, 2, 0, -1);
        refused(BUSY, KIND, "copy", 0, 0, 2, 0, 99);
        refused(NEW, BEYOND, "load", 4);
        refused(NEW, BEYOND, "judge", 4);
    }

    /** What only asks changes nothing, what will be and could be told too. */
    private static void asking() {
        asked("cell", 12, 1);
        asked("of", 1, 6);
        asked("apart", 3, 33);
        asked("now", 3);
        asked("where", 0);
        asked("way", 12, 14);
        asked("joined", 12);
        asked("groups");
        asked("parts", 12, 14);
        asked("bridges", 12, 14);
        asked("bridges", 12, 35);
        asked("mend", 12, 35);
        for (int n : new int[] {0, 1, 60}) {
            asked("ahead", 14, n);
            asked("head", 1, n);
            asked("there", n);
            asked("kindFor", 1, n);
            asked("headingFor", 1, n);
            asked("without", n);
        }
        asked("when", 12, 14);
        asked("when", 14, 16);
        asked("bare");
        asked("sowFor", 0, 14, 17, 5);
        asked("sowFor", 0, 12, 14, 0);
        asked("weed");
        asked("fits", 1, 1, 26);
        asked("headings", 0, 1, 26);
        asked("odds", 11, 0);
        asked("odds", 0, 1);
        asked("as", 9, 1);
        asked("judge", 0);
        for (int what = 0; what <= 7; what++) {
            asked("count", what);
        }
        for (int which = -1; which <= 6; which++) {
            asked("status", which);
        }
    }

    /** A text with a fault: the tape is empty, nothing else is changed, and nothing is counted. */
    private static void faults() {
        String[] texts = {"", " ", "seed", "seed 7;", "annual 7 left aged 4;wall 9;path 10 4;water 1;tree",
            "path 0 9;grass 3;path 3 7;wall 0;path 0 1", "water 35;seed 1 aged 1000",
            "annual 1;bulb 2;runner 3;seed 4;seed 5;seed 6;seed 7"};
        for (String text : texts) {
            SownPaths x = Parks.busy();
            SownPaths never = Parks.busy();
            x.wipe();
            never.wipe();
            CHECK.holds("\"" + text + "\" has a fault", Parks.read(x, text) < 0);
            CHECK.due("\"" + text + "\" empties the tape", x.count(5), 0);
            CHECK.holds("\"" + text + "\" is no finding", Arrays.equals(Parks.told(x), Parks.told(never)));
            CHECK.holds("\"" + text + "\" changes nothing", Parks.allOf(x).equals(Parks.allOf(never)));
        }
    }
}
