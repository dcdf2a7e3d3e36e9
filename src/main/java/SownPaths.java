/**
 * A park in which paths are sown: seeds of kinds whose heads go on by a
 * heading and leave path behind them that fades. What each call answers stands
 * in the document's promises.
 */
public final class SownPaths {

    private static final int SIDE = 6;
    private static final int CELLS = 36;
    private static final int SEEDS = 8;
    private static final int SPOTS = 10;
    private static final int SHEETS = 4;
    private static final int TAPE = 120;

    private static final int MOST_PATH = 99;
    private static final int MOST_AGE = 999;
    private static final int LAST_SEASON = 99999;
    private static final int FARTHEST = 60;
    private static final int MOST_NUMBERS = 40;

    private static final int GRASS = 0;
    private static final int WATER = 1;
    private static final int WALL = 2;

    private static final int SEED = 0;
    private static final int ANNUAL = 1;
    private static final int BULB = 2;
    private static final int RUNNER = 3;
    private static final int STRAGGLER = 4;
    private static final int TWINER = 5;
    private static final int CREEPER = 6;
    private static final int KINDS = 7;

    private static final int UP = 0;
    private static final int RIGHT = 1;
    private static final int DOWN = 2;
    private static final int HEADINGS = 4;

    private static final int LOW = -1000001;
    private static final int BEYOND = 0;
    private static final int FULL = 1;
    private static final int KIND = 2;
    private static final int NONE = 3;
    private static final int STATE = 4;
    private static final int MISSING = 5;
    private static final int SIZE = 6;
    private static final int FINDINGS = 7;

    private static final int ANY = -1;
    private static final int NOTHING = -1;

    private final Park park = new Park();
    // What will be is tried here, so that no call has to make a park of its own.
    private final Park trial = new Park();
    private final Park kept = new Park();
    private boolean isKept;
    private final Tape tape = new Tape();
    private final Sheet[] sheets;
    private final int[] told = new int[FINDINGS];

    public SownPaths() {
        sheets = new Sheet[SHEETS];
        for (int i = 0; i < sheets.length; i++) {
            sheets[i] = new Sheet();
        }
    }

    // ---- the park, seeds

    public int ground(int cell, int v) {
        if (!isCell(cell) || !within(v, GRASS, WALL)) {
            return finding(BEYOND);
        }
        int was = park.groundOf(cell);
        park.becomeGround(cell, v);
        return was;
    }

    public int cell(int cell, int what) {
        if (!isCell(cell)) {
            return finding(BEYOND);
        }
        switch (what) {
            case 0: return park.groundOf(cell);
            case 1: return park.pathOf(cell);
            case 2: return Long.bitCount(Cells.neighbours(bit(cell)) & park.pathSet());
            case 3: return park.headsOn(cell);
            default: return finding(BEYOND);
        }
    }

    public int tread(int cell, int v) {
        if (!isCell(cell) || !within(v, 0, MOST_PATH)) {
            return finding(BEYOND);
        }
        if (!park.isGrass(cell)) {
            return finding(STATE);
        }
        int was = park.pathOf(cell);
        park.becomePath(cell, v);
        return was;
    }

    public int sow(int kind, int cell, int heading) {
        if (!isKind(kind) || !isCell(cell) || !isHeading(heading)) {
            return finding(BEYOND);
        }
        if (park.isFull()) {
            return finding(FULL);
        }
        return park.plant(kind, cell, heading, 0);
    }

    public int of(int seed, int what) {
        Seed s = park.seedAt(seed);
        if (s == null) {
            return finding(BEYOND);
        }
        switch (what) {
            case 0: return s.kind;
            case 1: return s.place;
            case 2: return s.facing;
            case 3: return s.age;
            case 4: return s.lives();
            case 5: return s.treads();
            case 6: return park.turnOf(s);
            case 7: return s.isAlive() ? 1 : 0;
            default: return finding(BEYOND);
        }
    }

    public int change(int seed, int what, int v) {
        Seed s = park.seedAt(seed);
        if (s == null || !Seed.takes(what, v)) {
            return finding(BEYOND);
        }
        return s.replace(what, v);
    }

    public int apart(int a, int b) {
        if (!isCell(a) || !isCell(b)) {
            return finding(BEYOND);
        }
        return Cells.distance(a, b);
    }

    // ---- seasons

    public int go(int n) {
        if (!within(n, 1, 40)) {
            return finding(BEYOND);
        }
        if (park.season + n > LAST_SEASON) {
            return finding(STATE);
        }
        park.pass(n);
        return park.pathCells();
    }

    public int now(int what) {
        switch (what) {
            case 0: return park.season;
            case 1: return park.pathCells();
            case 2: return park.aliveSet();
            case 3: return park.pathOfAll();
            case 4: return Long.bitCount(Cells.benches(park.pathSet()));
            default: return finding(BEYOND);
        }
    }

    public long where(int what) {
        switch (what) {
            case 0: return park.pathSet();
            case 1: return park.water;
            case 2: return park.wall;
            case 3: return Cells.benches(park.pathSet());
            default: return finding(BEYOND);
        }
    }

    // ---- ways

    public int way(int a, int b) {
        if (!isCell(a) || !isCell(b)) {
            return finding(BEYOND);
        }
        int steps = Cells.steps(a, b, park.pathSet());
        return steps < 0 ? finding(NONE) : steps;
    }

    public long joined(int cell) {
        if (!isCell(cell)) {
            return finding(BEYOND);
        }
        return Cells.reach(cell, park.pathSet());
    }

    public int groups() {
        return Cells.countGroups(park.pathSet());
    }

    public int parts(int a, int b) {
        if (!isCell(a) || !isCell(b)) {
            return finding(BEYOND);
        }
        int least = Cells.least(Cells.cuts(a, b, park.pathSet()));
        return least < 0 ? finding(NONE) : least;
    }

    public int bridges(int a, int b) {
        if (!isCell(a) || !isCell(b)) {
            return finding(BEYOND);
        }
        return Long.bitCount(Cells.cuts(a, b, park.pathSet()));
    }

    public int mend(int a, int b) {
        if (!isCell(a) || !isCell(b)) {
            return finding(BEYOND);
        }
        int fewest = Cells.fewestNew(a, b, park.pathSet(), park.grassSet());
        return fewest < 0 ? finding(NONE) : fewest;
    }

    // ---- what will be (nothing changes)

    public int ahead(int cell, int n) {
        if (!isCell(cell) || !within(n, 0, FARTHEST)) {
            return finding(BEYOND);
        }
        trial.copyFrom(park);
        trial.pass(n);
        return trial.pathOf(cell);
    }

    public int head(int seed, int n) {
        trial.copyFrom(park);
        Seed s = trial.seedAt(seed);
        if (s == null || !within(n, 0, FARTHEST)) {
            return finding(BEYOND);
        }
        trial.pass(n);
        return s.place;
    }

    public int when(int a, int b) {
        if (!isCell(a) || !isCell(b)) {
            return finding(BEYOND);
        }
        trial.copyFrom(park);
        for (int n = 0; n <= FARTHEST; n++) {
            if (Cells.areJoined(a, b, trial.pathSet())) {
                return n;
            }
            trial.pass(1);
        }
        return finding(NONE);
    }

    public int bare() {
        trial.copyFrom(park);
        for (int n = 0; n <= FARTHEST; n++) {
            if (trial.pathSet() == 0) {
                return n;
            }
            trial.pass(1);
        }
        return finding(NONE);
    }

    public long there(int n) {
        if (!within(n, 0, FARTHEST)) {
            return finding(BEYOND);
        }
        trial.copyFrom(park);
        trial.pass(n);
        return trial.pathSet();
    }

    public int kindFor(int seed, int n) {
        if (park.seedAt(seed) == null || !within(n, 0, FARTHEST)) {
            return finding(BEYOND);
        }
        return mostPath(seed, Seed.WHAT_KIND, KINDS, n);
    }

    public int headingFor(int seed, int n) {
        if (park.seedAt(seed) == null || !within(n, 0, FARTHEST)) {
            return finding(BEYOND);
        }
        return mostPath(seed, Seed.WHAT_FACING, HEADINGS, n);
    }

    // ---- sowing, weeding

    public int sowFor(int kind, int a, int b, int n) {
        if (!isKind(kind) || !isCell(a) || !isCell(b) || !within(n, 0, 30)) {
            return finding(BEYOND);
        }
        if (park.isFull()) {
            return finding(FULL);
        }
        for (int cell = 0; cell < CELLS; cell++) {
            if (park.isGrass(cell)) {
                trial.copyFrom(park);
                trial.plant(kind, cell, UP, 0);
                trial.pass(n);
                if (Cells.areJoined(a, b, trial.pathSet())) {
                    return cell;
                }
            }
        }
        return finding(NONE);
    }

    public int without(int n) {
        if (!within(n, 0, FARTHEST)) {
            return finding(BEYOND);
        }
        int best = NOTHING;
        int fewest = CELLS + 1;
        for (int seed = 0; seed < park.seeds; seed++) {
            trial.copyWith(park, seed, Seed.WHAT_AGE, MOST_AGE);
            trial.pass(n);
            int cells = trial.pathCells();
            if (cells < fewest) {
                fewest = cells;
                best = seed;
            }
        }
        return best < 0 ? finding(NONE) : best;
    }

    public int weed() {
        long path = park.pathSet();
        int best = NOTHING;
        int most = -1;
        for (int cell = 0; cell < CELLS; cell++) {
            if ((path & bit(cell)) != 0) {
                int left = Cells.countGroups(path & ~bit(cell));
                if (left > most) {
                    most = left;
                    best = cell;
                }
            }
        }
        return best < 0 ? finding(NONE) : best;
    }

    // ---- what was laid

    public int fits(int s, int seed, int cell) {
        Sheet sheet = sheetAt(s);
        if (sheet == null) {
            return finding(BEYOND);
        }
        if (sheet.isMissing()) {
            return finding(MISSING);
        }
        if (park.seedAt(seed) == null || !isCell(cell)) {
            return finding(BEYOND);
        }
        int set = 0;
        for (int kind = 0; kind < KINDS; kind++) {
            trial.copyWith(park, seed, Seed.WHAT_KIND, kind);
            if (trialGoesAsTold(sheet, cell)) {
                set |= 1 << kind;
            }
        }
        return set;
    }

    public int headings(int s, int seed, int cell) {
        Sheet sheet = sheetAt(s);
        if (sheet == null) {
            return finding(BEYOND);
        }
        if (sheet.isMissing()) {
            return finding(MISSING);
        }
        if (park.seedAt(seed) == null || !isCell(cell)) {
            return finding(BEYOND);
        }
        int fitting = 0;
        for (int heading = 0; heading < HEADINGS; heading++) {
            trial.copyWith(park, seed, Seed.WHAT_FACING, heading);
            if (trialGoesAsTold(sheet, cell)) {
                fitting++;
            }
        }
        return fitting;
    }

    // ---- dogs

    public int dogs(int n) {
        if (!within(n, 1, 20)) {
            return finding(BEYOND);
        }
        if (park.season + n > LAST_SEASON) {
            return finding(STATE);
        }
        for (int i = 0; i < n; i++) {
            park.becomePath(park.draw() % CELLS, 0);
            park.pass(1);
        }
        return park.pathCells();
    }

    public long odds(int n, int what) {
        if (!within(n, 0, 11) || !within(what, 0, 1)) {
            return finding(BEYOND);
        }
        int free = CELLS - park.pathCells();
        int common = commonDivisor(free, CELLS);
        // A power of a fraction in lowest terms is in lowest terms.
        int part = what == 0 ? free : CELLS;
        return common > 0 ? power(part / common, n) : power(part, n);
    }

    public int seed(int v) {
        int was = park.z;
        park.z = v;
        return was;
    }

    // ---- texts

    public int feed(int bytes, int n) {
        if (!within(n, 1, 4)) {
            return finding(BEYOND);
        }
        if (tape.length + n > TAPE) {
            return finding(FULL);
        }
        for (int i = n - 1; i >= 0; i--) {
            tape.append(bytes >>> (8 * i) & 255);
        }
        return tape.length;
    }

    public int wipe() {
        return tape.clear();
    }

    public int text() {
        // Nothing of a text may count before all of it is known to be sound.
        trial.copyFrom(park);
        int items = Grammar.read(tape, trial);
        if (items >= 0) {
            park.copyFrom(trial);
        }
        tape.clear();
        return items;
    }

    // ---- spots, sheets

    public int hold(int spot, int seed) {
        if (!within(spot, 0, SPOTS - 1)) {
            return finding(BEYOND);
        }
        if (seed != NOTHING && park.seedAt(seed) == null) {
            return finding(BEYOND);
        }
        put(park.spots, spot, seed);
        return 1;
    }

    public int as(int spot, int kind) {
        if (!within(spot, 0, SPOTS - 1) || !isKind(kind)) {
            return finding(BEYOND);
        }
        int seed = at(park.spots, spot);
        Seed s = park.seedAt(seed);
        if (s == null) {
            return finding(MISSING);
        }
        return s.isA(kind) ? seed : finding(KIND);
    }

    public int sheet(int s, int bits, int n) {
        Sheet sheet = sheetAt(s);
        if (sheet == null || !Sheet.canHave(bits)) {
            return finding(BEYOND);
        }
        if (n < 0) {
            return finding(SIZE);
        }
        if (n > MOST_NUMBERS) {
            return finding(BEYOND);
        }
        sheet.lay(bits, n);
        return sheet.size;
    }

    public int write(int s, int i, int v) {
        Sheet sheet = sheetAt(s);
        if (sheet == null) {
            return finding(BEYOND);
        }
        if (sheet.isMissing()) {
            return finding(MISSING);
        }
        if (!within(i, 0, sheet.size - 1)) {
            return finding(BEYOND);
        }
        sheet.note(i, v);
        return 1;
    }

    public int copy(int s, int from, int t, int to, int n) {
        Sheet source = sheetAt(s);
        Sheet target = sheetAt(t);
        if (source == null || target == null) {
            return finding(BEYOND);
        }
        if (source.isMissing() || target.isMissing()) {
            return finding(MISSING);
        }
        if (source.bits != target.bits) {
            return finding(KIND);
        }
        if (!source.has(from, n) || !target.has(to, n)) {
            return finding(BEYOND);
        }
        target.take(to, source, from, n);
        return n;
    }

    public int load(int s) {
        Sheet sheet = sheetAt(s);
        if (sheet == null) {
            return finding(BEYOND);
        }
        if (sheet.isMissing()) {
            return finding(MISSING);
        }
        int came = 0;
        for (int i = 0; i < CELLS && i < sheet.size; i++) {
            int v = sheet.numberAt(i);
            if (!within(v, 0, MOST_PATH)) {
                return came;
            }
            park.becomePath(i, v);
            came++;
        }
        return came;
    }

    public int judge(int s) {
        Sheet sheet = sheetAt(s);
        if (sheet == null) {
            return finding(BEYOND);
        }
        if (sheet.isMissing()) {
            return finding(MISSING);
        }
        long path = park.pathSet();
        long next = path;
        for (int i = 0; i < sheet.size; i++) {
            int cell = sheet.numberAt(i);
            if (!isCell(cell) || (next & bit(cell)) == 0) {
                return 1 + i;
            }
            next = Cells.neighbours(bit(cell)) & path;
        }
        return 0;
    }

    // ---- images

    public int image() {
        kept.copyFrom(park);
        isKept = true;
        return 1;
    }

    public int undo() {
        if (!isKept) {
            return finding(NONE);
        }
        park.copyFrom(kept);
        return park.season;
    }

    public int tear() {
        int was = isKept ? 1 : 0;
        isKept = false;
        return was;
    }

    public int count(int what) {
        switch (what) {
            case 0: return park.season;
            case 1: return park.seeds;
            case 2: return Integer.bitCount(park.aliveSet());
            case 3: return park.pathCells();
            case 4: return Long.bitCount(Cells.benches(park.pathSet()));
            case 5: return tape.length;
            case 6: return park.z;
            case 7: return park.spotsHeld();
            default: return finding(BEYOND);
        }
    }

    public int status(int which) {
        if (!within(which, -1, FINDINGS - 1)) {
            return finding(BEYOND);
        }
        if (which >= 0) {
            return at(told, which);
        }
        int all = 0;
        for (int i = 0; i < told.length; i++) {
            all += told[i];
        }
        return all;
    }

    // ---- helpers of the acts

    private int finding(int which) {
        put(told, which, at(told, which) + 1);
        return LOW - which;
    }

    private Sheet sheetAt(int s) {
        return s >= 0 && s < sheets.length ? sheets[s] : null;
    }

    /** The least value of what a seed has with which most cells have path behind n seasons. */
    private int mostPath(int seed, int what, int values, int n) {
        int best = 0;
        int most = -1;
        for (int v = 0; v < values; v++) {
            trial.copyWith(park, seed, what, v);
            trial.pass(n);
            int cells = trial.pathCells();
            if (cells > most) {
                most = cells;
                best = v;
            }
        }
        return best;
    }

    private boolean trialGoesAsTold(Sheet sheet, int cell) {
        for (int i = 0; i < sheet.size; i++) {
            if (i > 0) {
                trial.pass(1);
            }
            int v = sheet.numberAt(i);
            if (v != ANY && v != trial.pathOf(cell)) {
                return false;
            }
        }
        return true;
    }

    private static boolean within(int v, int least, int most) {
        return v >= least && v <= most;
    }

    private static boolean isCell(int v) {
        return within(v, 0, CELLS - 1);
    }

    private static boolean isKind(int v) {
        return within(v, 0, KINDS - 1);
    }

    private static boolean isHeading(int v) {
        return within(v, 0, HEADINGS - 1);
    }

    private static long bit(int cell) {
        return 1L << cell;
    }

    private static int at(int[] row, int i) {
        return i >= 0 && i < row.length ? row[i] : 0;
    }

    private static void put(int[] row, int i, int v) {
        if (i >= 0 && i < row.length) {
            row[i] = v;
        }
    }

    private static void putAll(int[] row, int[] values) {
        System.arraycopy(values, 0, row, 0, Math.min(values.length, row.length));
    }

    private static int commonDivisor(int a, int b) {
        int big = b;
        int small = a;
        // Each rest is below the divisor, so that 64 rounds are far above need.
        for (int i = 0; i < 64 && small > 0; i++) {
            int rest = big % small;
            big = small;
            small = rest;
        }
        return big;
    }

    private static long power(int base, int n) {
        long product = 1;
        for (int i = 0; i < n; i++) {
            product *= base;
        }
        return product;
    }

    /** Sets of cells, a bit each, and what can be told of them alone. */
    private static final class Cells {
        private static final long ALL = (1L << CELLS) - 1;
        private static final long LEFT_COLUMN = 0x41041041L;
        private static final long RIGHT_COLUMN = LEFT_COLUMN << (SIDE - 1);

        private Cells() {
        }

        static int distance(int a, int b) {
            int rows = a / SIDE - b / SIDE;
            int columns = a % SIDE - b % SIDE;
            return (rows < 0 ? -rows : rows) + (columns < 0 ? -columns : columns);
        }

        static int turned(int heading, int by) {
            return (heading + by) % HEADINGS;
        }

        /** The neighbour of a cell in a heading, or -1. */
        static int neighbour(int cell, int heading) {
            int row = cell / SIDE;
            int column = cell % SIDE;
            switch (heading) {
                case UP: return row > 0 ? cell - SIDE : NOTHING;
                case RIGHT: return column < SIDE - 1 ? cell + 1 : NOTHING;
                case DOWN: return row < SIDE - 1 ? cell + SIDE : NOTHING;
                default: return column > 0 ? cell - 1 : NOTHING;
            }
        }

        static long neighbours(long set) {
            long beside = (set & ~RIGHT_COLUMN) << 1 | (set & ~LEFT_COLUMN) >>> 1;
            return (set << SIDE | set >>> SIDE | beside) & ALL;
        }

        static int least(long set) {
            for (int cell = 0; cell < CELLS; cell++) {
                if ((set & bit(cell)) != 0) {
                    return cell;
                }
            }
            return NOTHING;
        }

        /** A set with all that ways over open cells lead to from it. */
        static long spread(long set, long open) {
            long reached = set;
            for (int i = 0; i < CELLS; i++) {
                long more = reached | neighbours(reached) & open;
                if (more == reached) {
                    return reached;
                }
                reached = more;
            }
            return reached;
        }

        static long reach(int cell, long path) {
            return spread(bit(cell) & path, path);
        }

        static boolean areJoined(int a, int b, long path) {
            return (reach(a, path) & bit(b)) != 0;
        }

        /** The steps of the shortest way, or -1. */
        static int steps(int a, int b, long path) {
            long reached = bit(a) & path;
            for (int steps = 0; steps < CELLS; steps++) {
                if ((reached & bit(b)) != 0) {
                    return steps;
                }
                reached |= neighbours(reached) & path;
            }
            return NOTHING;
        }

        static int countGroups(long path) {
            long left = path;
            int groups = 0;
            for (int i = 0; i < CELLS && left != 0; i++) {
                left &= ~spread(left & -left, path);
                groups++;
            }
            return groups;
        }

        /** The cells but the ends without which two joined cells would not be joined. */
        static long cuts(int a, int b, long path) {
            long cuts = 0;
            if (!areJoined(a, b, path)) {
                return cuts;
            }
            long between = path & ~(bit(a) | bit(b));
            for (int cell = 0; cell < CELLS; cell++) {
                if ((between & bit(cell)) != 0 && !areJoined(a, b, path & ~bit(cell))) {
                    cuts |= bit(cell);
                }
            }
            return cuts;
        }

        /** The fewest cells of grass that must come to the path to join two cells, or -1. */
        static int fewestNew(int a, int b, long path, long grass) {
            long reached = reach(a, path);
            for (int cost = 0; cost <= CELLS; cost++) {
                if ((reached & bit(b)) != 0) {
                    return cost;
                }
                // The first cell may itself be what must come first.
                long edge = (bit(a) | neighbours(reached)) & grass;
                reached = spread(reached | edge, path);
            }
            return NOTHING;
        }

        static long benches(long path) {
            long benches = 0;
            for (int cell = 0; cell < CELLS; cell++) {
                long here = bit(cell);
                if ((path & here) != 0 && Long.bitCount(neighbours(here) & path) >= 3) {
                    benches |= here;
                }
            }
            return benches;
        }
    }

    /** A seed; what its kind alone decides stands here. */
    private static final class Seed {
        private static final int WHAT_KIND = 0;
        private static final int WHAT_PLACE = 1;
        private static final int WHAT_FACING = 2;
        private static final int WHAT_AGE = 3;

        private int kind;
        private int place;
        private int facing;
        private int age;

        void mirror(Seed other) {
            kind = other.kind;
            place = other.place;
            facing = other.facing;
            age = other.age;
        }

        static boolean takes(int what, int v) {
            switch (what) {
                case WHAT_KIND: return isKind(v);
                case WHAT_PLACE: return isCell(v);
                case WHAT_FACING: return isHeading(v);
                case WHAT_AGE: return within(v, 0, MOST_AGE);
                default: return false;
            }
        }

        /** Sets one of its four numbers; answers what it was. */
        int replace(int what, int v) {
            int was;
            switch (what) {
                case WHAT_KIND: was = kind; kind = v; return was;
                case WHAT_PLACE: was = place; place = v; return was;
                case WHAT_FACING: was = facing; facing = v; return was;
                default: was = age; age = v; return was;
            }
        }

        // Both tables are written as sums, since the document builds a kind on the one above it.
        int lives() {
            switch (kind) {
                case ANNUAL: return 4;
                case CREEPER: return 4 + 4;
                case BULB: return 20 + 10;
                case RUNNER: return (20 + 10) / 2;
                case STRAGGLER: return (20 + 10) / 2 + 1;
                default: return 20;
            }
        }

        int treads() {
            switch (kind) {
                case ANNUAL: return 6;
                case CREEPER: return 6;
                case BULB: return 12 + 20;
                case RUNNER: return 12 + 20;
                case STRAGGLER: return (12 + 20) / 2;
                case TWINER: return 9;
                default: return 12;
            }
        }

        boolean isAlive() {
            return age < lives();
        }

        /** Whether its kind is another one, or stands under it. */
        boolean isA(int other) {
            int over = kind;
            for (int level = 0; level < KINDS && over != other; level++) {
                over = kindOver(over);
            }
            return over == other;
        }

        private static int kindOver(int kind) {
            switch (kind) {
                case RUNNER: return BULB;
                case STRAGGLER: return RUNNER;
                case CREEPER: return ANNUAL;
                default: return SEED;
            }
        }
    }

    /** All that an image keeps: the park, its seeds, the season, the spots, z. */
    private static final class Park {
        private final int[] paths = new int[CELLS];
        private long water;
        private long wall;
        private final Seed[] sown;
        private int seeds;
        private int season;
        private int z = 1;
        private final int[] spots = new int[SPOTS];

        Park() {
            sown = new Seed[SEEDS];
            for (int i = 0; i < sown.length; i++) {
                sown[i] = new Seed();
            }
            for (int i = 0; i < spots.length; i++) {
                spots[i] = NOTHING;
            }
        }

        void copyFrom(Park other) {
            putAll(paths, other.paths);
            putAll(spots, other.spots);
            water = other.water;
            wall = other.wall;
            for (int i = 0; i < SEEDS; i++) {
                Seed mine = sownAt(i);
                Seed theirs = other.sownAt(i);
                if (mine != null && theirs != null) {
                    mine.mirror(theirs);
                }
            }
            seeds = other.seeds;
            season = other.season;
            z = other.z;
        }

        /** Becomes like another park but for one number of one seed. */
        void copyWith(Park other, int seed, int what, int v) {
            copyFrom(other);
            Seed s = seedAt(seed);
            if (s != null) {
                s.replace(what, v);
            }
        }

        private Seed sownAt(int i) {
            return i >= 0 && i < sown.length ? sown[i] : null;
        }

        /** The seed of a number, or null where there is none yet. */
        Seed seedAt(int seed) {
            return seed < seeds ? sownAt(seed) : null;
        }

        boolean isFull() {
            return seeds >= SEEDS;
        }

        /** A new seed: its number, or -1 where there is no room. */
        int plant(int kind, int cell, int heading, int age) {
            Seed s = sownAt(seeds);
            if (s == null) {
                return NOTHING;
            }
            s.kind = kind;
            s.place = cell;
            s.facing = heading;
            s.age = age;
            seeds++;
            return seeds - 1;
        }

        int groundOf(int cell) {
            if ((water & bit(cell)) != 0) {
                return WATER;
            }
            return (wall & bit(cell)) != 0 ? WALL : GRASS;
        }

        void becomeGround(int cell, int v) {
            water &= ~bit(cell);
            wall &= ~bit(cell);
            if (v == WATER) {
                water |= bit(cell);
            } else if (v == WALL) {
                wall |= bit(cell);
            }
            if (v != GRASS) {
                put(paths, cell, 0);
            }
        }

        long grassSet() {
            return Cells.ALL & ~(water | wall);
        }

        boolean isGrass(int cell) {
            return (grassSet() & bit(cell)) != 0;
        }

        int pathOf(int cell) {
            return at(paths, cell);
        }

        /** Sets the path of a cell; water and walls stay without. */
        void becomePath(int cell, int v) {
            if (isGrass(cell)) {
                put(paths, cell, v);
            }
        }

        long pathSet() {
            long set = 0;
            for (int cell = 0; cell < paths.length; cell++) {
                if (paths[cell] > 0) {
                    set |= bit(cell);
                }
            }
            return set;
        }

        int pathCells() {
            return Long.bitCount(pathSet());
        }

        int pathOfAll() {
            int sum = 0;
            for (int cell = 0; cell < paths.length; cell++) {
                sum += paths[cell];
            }
            return sum;
        }

        int headsOn(int cell) {
            int set = 0;
            for (int i = 0; i < seeds; i++) {
                Seed s = seedAt(i);
                if (s != null && s.place == cell) {
                    set |= 1 << i;
                }
            }
            return set;
        }

        int aliveSet() {
            int set = 0;
            for (int i = 0; i < seeds; i++) {
                Seed s = seedAt(i);
                if (s != null && s.isAlive()) {
                    set |= 1 << i;
                }
            }
            return set;
        }

        int spotsHeld() {
            int held = 0;
            for (int i = 0; i < spots.length; i++) {
                if (spots[i] != NOTHING) {
                    held++;
                }
            }
            return held;
        }

        /** A draw, 0 to 16777215. */
        int draw() {
            z = z * 1103515245 + 12345;
            return z >>> 8;
        }

        void pass(int n) {
            for (int i = 0; i < n; i++) {
                for (int cell = 0; cell < paths.length; cell++) {
                    paths[cell] = Math.max(0, paths[cell] - 1);
                }
                for (int k = 0; k < seeds; k++) {
                    Seed s = seedAt(k);
                    if (s != null && s.isAlive()) {
                        advance(s);
                    }
                }
                season = Math.min(season + 1, LAST_SEASON);
            }
        }

        private void advance(Seed s) {
            s.facing = turnOf(s);
            int next = Cells.neighbour(s.place, s.facing);
            if (next >= 0 && isGrass(next)) {
                s.place = next;
            } else {
                s.facing = Cells.turned(s.facing, 1);
            }
            if (pathOf(s.place) < s.treads()) {
                becomePath(s.place, s.treads());
            }
            s.age++;
        }

        int turnOf(Seed s) {
            switch (s.kind) {
                case CREEPER: return Cells.turned(s.facing, s.age & 1);
                case BULB: return toward(s, nearestWater(s));
                case RUNNER: return toward(s, nearestCompany(s));
                case STRAGGLER: return Cells.turned(toward(s, nearestCompany(s)), season & 1);
                case TWINER: return Cells.turned(s.facing, 1);
                default: return s.facing;
            }
        }

        private int nearestWater(Seed s) {
            int nearest = NOTHING;
            int fewest = CELLS;
            for (int cell = 0; cell < CELLS; cell++) {
                if ((water & bit(cell)) != 0 && Cells.distance(s.place, cell) < fewest) {
                    fewest = Cells.distance(s.place, cell);
                    nearest = cell;
                }
            }
            return nearest;
        }

        /** The cell of the nearest other seed that lives, else of the nearest water. */
        private int nearestCompany(Seed s) {
            int nearest = NOTHING;
            int fewest = CELLS;
            for (int i = 0; i < seeds; i++) {
                Seed other = seedAt(i);
                if (other != null && other.place != s.place && other.isAlive()
                        && Cells.distance(s.place, other.place) < fewest) {
                    fewest = Cells.distance(s.place, other.place);
                    nearest = other.place;
                }
            }
            return nearest < 0 ? nearestWater(s) : nearest;
        }

        /** The least heading that brings a seed nearer to a cell; else its own. */
        private static int toward(Seed s, int cell) {
            if (cell < 0) {
                return s.facing;
            }
            int far = Cells.distance(s.place, cell);
            for (int heading = 0; heading < HEADINGS; heading++) {
                int next = Cells.neighbour(s.place, heading);
                if (next >= 0 && Cells.distance(next, cell) < far) {
                    return heading;
                }
            }
            return s.facing;
        }
    }

    /** A row of at most forty numbers, all of as many bits; with none it is missing. */
    private static final class Sheet {
        private final int[] numbers = new int[MOST_NUMBERS];
        private int bits;
        private int size;

        static boolean canHave(int bits) {
            return bits == 0 || bits == 8 || bits == 16 || bits == 32;
        }

        void lay(int newBits, int n) {
            bits = newBits;
            size = newBits == 0 ? 0 : n;
            for (int i = 0; i < numbers.length; i++) {
                numbers[i] = 0;
            }
        }

        boolean isMissing() {
            return bits == 0;
        }

        int numberAt(int i) {
            return at(numbers, i);
        }

        void note(int i, int v) {
            switch (bits) {
                case 8: put(numbers, i, (byte) v); break;
                case 16: put(numbers, i, (short) v); break;
                default: put(numbers, i, v); break;
            }
        }

        /** Whether it has n numbers from one on; written so that no sum can wrap. */
        boolean has(int from, int n) {
            return from >= 0 && n >= 0 && from <= size && n <= size - from;
        }

        void take(int to, Sheet source, int from, int n) {
            if (has(to, n) && source.has(from, n)) {
                System.arraycopy(source.numbers, from, numbers, to, n);
            }
        }
    }

    /** The tape, and its tokens one behind the other. */
    private static final class Tape {
        private static final int END = 0;
        private static final int WORD = 1;
        private static final int NUMBER = 2;
        private static final int SIGN = 3;
        private static final int STRANGE = 4;

        private final int[] bytes = new int[TAPE];
        private int length;

        // The token that is being looked at.
        private int sort;
        private int start;
        private int end;
        private int value;

        void append(int b) {
            if (length >= 0 && length < bytes.length) {
                bytes[length] = b;
                length++;
            }
        }

        int clear() {
            int had = length;
            length = 0;
            return had;
        }

        void begin() {
            end = 0;
            next();
        }

        void next() {
            start = end;
            while (start < length && at(bytes, start) == ' ') {
                start++;
            }
            end = start;
            value = NOTHING;
            if (start >= length) {
                sort = END;
            } else if (isLetter(at(bytes, start))) {
                sort = WORD;
                while (end < length && isLetter(at(bytes, end))) {
                    end++;
                }
            } else if (isDigit(at(bytes, start))) {
                sort = NUMBER;
                readNumber();
            } else {
                sort = at(bytes, start) == ';' ? SIGN : STRANGE;
                end++;
            }
        }

        private void readNumber() {
            value = 0;
            while (end < length && isDigit(at(bytes, end))) {
                // More than any number may be is enough to know.
                value = Math.min(value * 10 + at(bytes, end) - '0', 1000);
                end++;
            }
        }

        private static boolean isLetter(int b) {
            return b >= 'a' && b <= 'z';
        }

        private static boolean isDigit(int b) {
            return b >= '0' && b <= '9';
        }

        boolean isNumber(int most) {
            return sort == NUMBER && value <= most;
        }

        boolean isWord(String word) {
            if (sort != WORD || word.length() != end - start) {
                return false;
            }
            for (int i = 0; i < word.length(); i++) {
                if (at(bytes, start + i) != word.charAt(i)) {
                    return false;
                }
            }
            return true;
        }
    }

    /**
     * Reads a text into a park. Each reader leaves the tape at the first token
     * that it does not take: where it answers false, that token is the fault.
     */
    private static final class Grammar {

        private Grammar() {
        }

        /** How many items, or -1 less the fault. */
        static int read(Tape tape, Park park) {
            tape.begin();
            for (int items = 1; items <= TAPE; items++) {
                if (!readItem(tape, park)) {
                    break;
                }
                if (tape.sort == Tape.END) {
                    return items;
                }
                if (tape.sort != Tape.SIGN) {
                    break;
                }
                tape.next();
            }
            return -1 - tape.start;
        }

        private static boolean readItem(Tape tape, Park park) {
            int kind = kindOf(tape);
            if (kind >= 0) {
                return readSeed(tape, park, kind);
            }
            int ground = groundOf(tape);
            if (ground >= 0) {
                return readGround(tape, park, ground);
            }
            return tape.isWord("path") && readPath(tape, park);
        }

        private static boolean readSeed(Tape tape, Park park, int kind) {
            if (park.isFull()) {
                return false;
            }
            tape.next();
            if (!tape.isNumber(CELLS - 1)) {
                return false;
            }
            int cell = tape.value;
            tape.next();
            int heading = headingOf(tape);
            if (heading >= 0) {
                tape.next();
            }
            int age = 0;
            if (tape.isWord("aged")) {
                tape.next();
                if (!tape.isNumber(MOST_AGE)) {
                    return false;
                }
                age = tape.value;
                tape.next();
            }
            park.plant(kind, cell, heading < 0 ? UP : heading, age);
            return true;
        }

        private static boolean readGround(Tape tape, Park park, int ground) {
            tape.next();
            if (!tape.isNumber(CELLS - 1)) {
                return false;
            }
            park.becomeGround(tape.value, ground);
            tape.next();
            return true;
        }

        private static boolean readPath(Tape tape, Park park) {
            tape.next();
            if (!tape.isNumber(CELLS - 1) || !park.isGrass(tape.value)) {
                return false;
            }
            int cell = tape.value;
            tape.next();
            if (!tape.isNumber(MOST_PATH)) {
                return false;
            }
            park.becomePath(cell, tape.value);
            tape.next();
            return true;
        }

        private static int kindOf(Tape tape) {
            for (int kind = 0; kind < KINDS; kind++) {
                if (tape.isWord(nameOfKind(kind))) {
                    return kind;
                }
            }
            return NOTHING;
        }

        private static int groundOf(Tape tape) {
            for (int ground = GRASS; ground <= WALL; ground++) {
                if (tape.isWord(nameOfGround(ground))) {
                    return ground;
                }
            }
            return NOTHING;
        }

        private static int headingOf(Tape tape) {
            for (int heading = 0; heading < HEADINGS; heading++) {
                if (tape.isWord(nameOfHeading(heading))) {
                    return heading;
                }
            }
            return NOTHING;
        }

        private static String nameOfKind(int kind) {
            switch (kind) {
                case ANNUAL: return "annual";
                case BULB: return "bulb";
                case RUNNER: return "runner";
                case STRAGGLER: return "straggler";
                case TWINER: return "twiner";
                case CREEPER: return "creeper";
                default: return "seed";
            }
        }

        private static String nameOfGround(int ground) {
            switch (ground) {
                case WATER: return "water";
                case WALL: return "wall";
                default: return "grass";
            }
        }

        private static String nameOfHeading(int heading) {
            switch (heading) {
                case UP: return "up";
                case RIGHT: return "right";
                case DOWN: return "down";
                default: return "left";
            }
        }
    }
}
