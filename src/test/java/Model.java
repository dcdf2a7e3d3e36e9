import java.math.BigInteger;
import java.util.ArrayList;
import java.util.Arrays;
import java.util.LinkedHashSet;
import java.util.List;
import java.util.Set;
import java.util.TreeSet;
import java.util.regex.Matcher;
import java.util.regex.Pattern;

/**
 * The document once more, as slowly and as plainly as can be, with the Java
 * library: what the class answers is held against what this answers.
 */
final class Model {
    static final int BEYOND = -1000001;
    static final int FULL = -1000002;
    static final int KIND = -1000003;
    static final int NONE = -1000004;
    static final int STATE = -1000005;
    static final int MISSING = -1000006;
    static final int SIZE = -1000007;
    static final List<String> KINDS =
            List.of("seed", "annual", "bulb", "runner", "straggler", "twiner", "creeper");
    static final List<String> HEADINGS = List.of("up", "right", "down", "left");
    static final List<String> GROUNDS = List.of("grass", "water", "wall");
    static final List<String> PARENTS = List.of("", "seed", "seed", "bulb", "runner", "seed", "annual");

    static final class Plant {
        String kind;
        int row;
        int column;
        int heading;
        int age;

        Plant(String kind, int cell, int heading, int age) {
            this.kind = kind;
            this.heading = heading;
            this.age = age;
            stand(cell);
        }

        Plant twin() {
            return new Plant(kind, cell(), heading, age);
        }

        int cell() {
            return row * 6 + column;
        }

        void stand(int cell) {
            row = cell / 6;
            column = cell % 6;
        }

        int lives(String k) {
            if (k.equals("seed") || k.equals("twiner")) return 20;
            if (k.equals("annual")) return 4;
            if (k.equals("creeper")) return lives("annual") + 4;
            if (k.equals("bulb")) return lives("seed") + 10;
            if (k.equals("runner")) return lives("bulb") / 2;
            return lives("runner") + 1;
        }

        int tread(String k) {
            if (k.equals("seed")) return 12;
            if (k.equals("annual") || k.equals("creeper")) return 6;
            if (k.equals("bulb") || k.equals("runner")) return tread("seed") + 20;
            if (k.equals("straggler")) return tread("runner") / 2;
            return 9;
        }

        boolean alive() {
            return age < lives(kind);
        }
    }

    /** What an image keeps. */
    static final class World {
        int[] ground = new int[36];
        int[] path = new int[36];
        List<Plant> plants = new ArrayList<>();
        int season;
        int z = 1;
        int[] spots = new int[10];

        World() {
            Arrays.fill(spots, -1);
        }

        World twin() {
            World w = new World();
            w.ground = ground.clone();
            w.path = path.clone();
            for (Plant p : plants) w.plants.add(p.twin());
            w.season = season;
            w.z = z;
            w.spots = spots.clone();
            return w;
        }

        World later(int n) {
            World w = twin();
            for (int i = 0; i < n; i++) w.pass();
            return w;
        }

        static int neighbour(int cell, int heading) {
            int row = cell / 6 + new int[] {-1, 0, 1, 0}[heading];
            int column = cell % 6 + new int[] {0, 1, 0, -1}[heading];
            return row < 0 || row > 5 || column < 0 || column > 5 ? -1 : row * 6 + column;
        }

        static List<Integer> around(int cell) {
            List<Integer> all = new ArrayList<>();
            for (int h = 0; h < 4; h++) if (neighbour(cell, h) >= 0) all.add(neighbour(cell, h));
            return all;
        }

        static int apart(int a, int b) {
            return Math.abs(a / 6 - b / 6) + Math.abs(a % 6 - b % 6);
        }

        int nearer(int from, int goal) {
            for (int h = 0; h < 4; h++) {
                int there = neighbour(from, h);
                if (there >= 0 && apart(there, goal) < apart(from, goal)) return h;
            }
            throw new IllegalStateException("no heading is nearer");
        }

        int turn(Plant p, String kind) {
            switch (kind) {
                case "seed": return p.heading;
                case "annual": return turn(p, "seed");
                case "creeper": return (turn(p, "annual") + (p.age % 2 == 1 ? 1 : 0)) % 4;
                case "twiner": return (turn(p, "seed") + 1) % 4;
                case "straggler": return (turn(p, "runner") + (season % 2 == 1 ? 1 : 0)) % 4;
                case "bulb": {
                    int best = -1;
                    for (int c = 0; c < 36; c++) {
                        if (ground[c] == 1 && (best < 0 || apart(p.cell(), c) < apart(p.cell(), best))) best = c;
                    }
                    if (best < 0 || best == p.cell()) return turn(p, "seed");
                    return nearer(p.cell(), best);
                }
                default: {
                    Plant best = null;
                    for (Plant q : plants) {
                        if (q == p || !q.alive() || q.cell() == p.cell()) continue;
                        if (best == null || apart(p.cell(), q.cell()) < apart(p.cell(), best.cell())) best = q;
                    }
                    return best == null ? turn(p, "bulb") : nearer(p.cell(), best.cell());
                }
            }
        }

        void pass() {
            for (int c = 0; c < 36; c++) if (path[c] > 0) path[c]--;
            for (Plant p : plants) {
                if (!p.alive()) continue;
                p.heading = turn(p, p.kind);
                int there = neighbour(p.cell(), p.heading);
                if (there >= 0 && ground[there] == 0) p.stand(there);
                else p.heading = (p.heading + 1) % 4;
                if (ground[p.cell()] == 0 && path[p.cell()] < p.tread(p.kind)) path[p.cell()] = p.tread(p.kind);
                p.age++;
            }
            if (season < 99999) season++;
        }

        int cells() {
            int n = 0;
            for (int v : path) if (v > 0) n++;
            return n;
        }

        long pathSet() {
            long set = 0;
            for (int c = 0; c < 36; c++) if (path[c] > 0) set |= 1L << c;
            return set;
        }

        long groundSet(int g) {
            long set = 0;
            for (int c = 0; c < 36; c++) if (ground[c] == g) set |= 1L << c;
            return set;
        }

        int pathsAround(int cell) {
            int n = 0;
            for (int c : around(cell)) if (path[c] > 0) n++;
            return n;
        }

        long benches() {
            long set = 0;
            for (int c = 0; c < 36; c++) if (path[c] > 0 && pathsAround(c) > 2) set |= 1L << c;
            return set;
        }

        /** Steps from a cell to each that is joined to it; -1 to the others. */
        int[] steps(int from) {
            int[] steps = new int[36];
            Arrays.fill(steps, -1);
            if (path[from] == 0) return steps;
            List<Integer> queue = new ArrayList<>();
            queue.add(from);
            steps[from] = 0;
            for (int i = 0; i < queue.size(); i++) {
                for (int c : around(queue.get(i))) {
                    if (path[c] > 0 && steps[c] < 0) {
                        steps[c] = steps[queue.get(i)] + 1;
                        queue.add(c);
                    }
                }
            }
            return steps;
        }

        boolean joined(int a, int b) {
            return steps(a)[b] >= 0;
        }

        int groups() {
            Set<Set<Integer>> groups = new LinkedHashSet<>();
            for (int c = 0; c < 36; c++) {
                if (path[c] == 0) continue;
                Set<Integer> group = new TreeSet<>();
                int[] steps = steps(c);
                for (int d = 0; d < 36; d++) if (steps[d] >= 0) group.add(d);
                groups.add(group);
            }
            return groups.size();
        }

        List<Integer> cuts(int a, int b) {
            List<Integer> cuts = new ArrayList<>();
            if (!joined(a, b)) return cuts;
            for (int c = 0; c < 36; c++) {
                if (c == a || c == b) continue;
                World w = twin();
                w.path[c] = 0;
                if (!w.joined(a, b)) cuts.add(c);
            }
            return cuts;
        }

        /** The least cost by walking on as long as anything becomes cheaper. */
        int mend(int a, int b) {
            int far = 1000;
            int[] cost = new int[36];
            Arrays.fill(cost, far);
            if (ground[a] == 0) cost[a] = path[a] > 0 ? 0 : 1;
            for (boolean better = true; better;) {
                better = false;
                for (int c = 0; c < 36; c++) {
                    if (ground[c] != 0) continue;
                    for (int d : around(c)) {
                        int sum = cost[d] + (path[c] > 0 ? 0 : 1);
                        if (sum < cost[c]) {
                            cost[c] = sum;
                            better = true;
                        }
                    }
                }
            }
            return cost[b] >= far ? NONE : cost[b];
        }
    }

    static final class Fault extends Exception {
        private static final long serialVersionUID = 1;
        final int place;

        Fault(int place) {
            this.place = place;
        }
    }

    static final class Token {
        final String text;
        final int place;

        Token(String text, int place) {
            this.text = text;
            this.place = place;
        }
    }

    World world = new World();
    World kept;
    String tape = "";
    int[][] sheets = new int[4][];
    int[] bits = new int[4];
    long[] told = new long[7];

    private int finding(int which) {
        told[BEYOND - which]++;
        return which;
    }

    private static boolean cellOk(int c) {
        return 0 <= c && c <= 35;
    }

    private boolean seedOk(int s) {
        return 0 <= s && s < world.plants.size();
    }

    int ground(int cell, int v) {
        if (!cellOk(cell) || v < 0 || v > 2) return finding(BEYOND);
        int was = world.ground[cell];
        world.ground[cell] = v;
        if (v > 0) world.path[cell] = 0;
        return was;
    }

    int cell(int cell, int what) {
        if (!cellOk(cell) || what < 0 || what > 3) return finding(BEYOND);
        if (what == 0) return world.ground[cell];
        if (what == 1) return world.path[cell];
        if (what == 2) return world.pathsAround(cell);
        int set = 0;
        for (int s = 0; s < world.plants.size(); s++) if (world.plants.get(s).cell() == cell) set += 1 << s;
        return set;
    }

    int tread(int cell, int v) {
        if (!cellOk(cell) || v < 0 || v > 99) return finding(BEYOND);
        if (world.ground[cell] != 0) return finding(STATE);
        int was = world.path[cell];
        world.path[cell] = v;
        return was;
    }

    int sow(int kind, int cell, int heading) {
        if (kind < 0 || kind > 6 || !cellOk(cell) || heading < 0 || heading > 3) return finding(BEYOND);
        if (world.plants.size() == 8) return finding(FULL);
        world.plants.add(new Plant(KINDS.get(kind), cell, heading, 0));
        return world.plants.size() - 1;
    }

    int of(int seed, int what) {
        if (!seedOk(seed) || what < 0 || what > 7) return finding(BEYOND);
        Plant p = world.plants.get(seed);
        int[] all = {KINDS.indexOf(p.kind), p.cell(), p.heading, p.age, p.lives(p.kind), p.tread(p.kind),
            world.turn(p, p.kind), p.alive() ? 1 : 0};
        return all[what];
    }

    int change(int seed, int what, int v) {
        if (!seedOk(seed) || what < 0 || what > 3) return finding(BEYOND);
        if (v < 0 || v > new int[] {6, 35, 3, 999}[what]) return finding(BEYOND);
        Plant p = world.plants.get(seed);
        int was = new int[] {KINDS.indexOf(p.kind), p.cell(), p.heading, p.age}[what];
        if (what == 0) p.kind = KINDS.get(v);
        if (what == 1) p.stand(v);
        if (what == 2) p.heading = v;
        if (what == 3) p.age = v;
        return was;
    }

    int apart(int a, int b) {
        if (!cellOk(a) || !cellOk(b)) return finding(BEYOND);
        return World.apart(a, b);
    }

    int go(int n) {
        if (n < 1 || n > 40) return finding(BEYOND);
        if (world.season + n > 99999) return finding(STATE);
        world = world.later(n);
        return world.cells();
    }

    int aliveSet() {
        int set = 0;
        for (int s = 0; s < world.plants.size(); s++) if (world.plants.get(s).alive()) set += 1 << s;
        return set;
    }

    int now(int what) {
        if (what < 0 || what > 4) return finding(BEYOND);
        return new int[] {world.season, world.cells(), aliveSet(), Arrays.stream(world.path).sum(),
            Long.bitCount(world.benches())}[what];
    }

    long where(int what) {
        if (what < 0 || what > 3) return finding(BEYOND);
        return new long[] {world.pathSet(), world.groundSet(1), world.groundSet(2), world.benches()}[what];
    }

    int way(int a, int b) {
        if (!cellOk(a) || !cellOk(b)) return finding(BEYOND);
        int steps = world.steps(a)[b];
        return steps < 0 ? finding(NONE) : steps;
    }

    long joined(int cell) {
        if (!cellOk(cell)) return finding(BEYOND);
        long set = 0;
        for (int c = 0; c < 36; c++) if (world.joined(cell, c)) set |= 1L << c;
        return set;
    }

    int groups() {
        return world.groups();
    }

    int parts(int a, int b) {
        if (!cellOk(a) || !cellOk(b)) return finding(BEYOND);
        List<Integer> cuts = world.cuts(a, b);
        return cuts.isEmpty() ? finding(NONE) : cuts.get(0);
    }

    int bridges(int a, int b) {
        if (!cellOk(a) || !cellOk(b)) return finding(BEYOND);
        return world.cuts(a, b).size();
    }

    int mend(int a, int b) {
        if (!cellOk(a) || !cellOk(b)) return finding(BEYOND);
        int cost = world.mend(a, b);
        return cost == NONE ? finding(NONE) : cost;
    }

    int ahead(int cell, int n) {
        if (!cellOk(cell) || n < 0 || n > 60) return finding(BEYOND);
        return world.later(n).path[cell];
    }

    int head(int seed, int n) {
        if (!seedOk(seed) || n < 0 || n > 60) return finding(BEYOND);
        return world.later(n).plants.get(seed).cell();
    }

    int when(int a, int b) {
        if (!cellOk(a) || !cellOk(b)) return finding(BEYOND);
        World w = world.twin();
        for (int n = 0; n <= 60; n++, w.pass()) if (w.joined(a, b)) return n;
        return finding(NONE);
    }

    int bare() {
        World w = world.twin();
        for (int n = 0; n <= 60; n++, w.pass()) if (w.cells() == 0) return n;
        return finding(NONE);
    }

    long there(int n) {
        if (n < 0 || n > 60) return finding(BEYOND);
        return world.later(n).pathSet();
    }

    int kindFor(int seed, int n) {
        if (!seedOk(seed) || n < 0 || n > 60) return finding(BEYOND);
        int[] cells = new int[7];
        for (int k = 0; k < 7; k++) {
            World w = world.twin();
            w.plants.get(seed).kind = KINDS.get(k);
            cells[k] = w.later(n).cells();
        }
        return firstMost(cells);
    }

    int headingFor(int seed, int n) {
        if (!seedOk(seed) || n < 0 || n > 60) return finding(BEYOND);
        int[] cells = new int[4];
        for (int h = 0; h < 4; h++) {
            World w = world.twin();
            w.plants.get(seed).heading = h;
            cells[h] = w.later(n).cells();
        }
        return firstMost(cells);
    }

    private static int firstMost(int[] values) {
        int best = 0;
        for (int i = 1; i < values.length; i++) if (values[i] > values[best]) best = i;
        return best;
    }

    int sowFor(int kind, int a, int b, int n) {
        if (kind < 0 || kind > 6 || !cellOk(a) || !cellOk(b) || n < 0 || n > 30) return finding(BEYOND);
        if (world.plants.size() >= 8) return finding(FULL);
        for (int c = 0; c < 36; c++) {
            if (world.ground[c] != 0) continue;
            World w = world.twin();
            w.plants.add(new Plant(KINDS.get(kind), c, 0, 0));
            if (w.later(n).joined(a, b)) return c;
        }
        return finding(NONE);
    }

    int without(int n) {
        if (n < 0 || n > 60) return finding(BEYOND);
        if (world.plants.isEmpty()) return finding(NONE);
        int[] less = new int[world.plants.size()];
        for (int s = 0; s < less.length; s++) {
            World w = world.twin();
            w.plants.get(s).age = 999;
            less[s] = -w.later(n).cells();
        }
        return firstMost(less);
    }

    int weed() {
        int best = -1;
        int most = -1;
        for (int c = 0; c < 36; c++) {
            if (world.path[c] == 0) continue;
            World w = world.twin();
            w.path[c] = 0;
            int groups = w.groups();
            if (groups > most) {
                most = groups;
                best = c;
            }
        }
        return best < 0 ? finding(NONE) : best;
    }

    private boolean asTold(World w, int[] sheet, int cell) {
        for (int i = 0; i < sheet.length; i++) {
            if (sheet[i] != -1 && sheet[i] != w.later(i).path[cell]) return false;
        }
        return true;
    }

    int fits(int s, int seed, int cell) {
        if (s < 0 || s > 3) return finding(BEYOND);
        if (sheets[s] == null) return finding(MISSING);
        if (!seedOk(seed) || !cellOk(cell)) return finding(BEYOND);
        int set = 0;
        for (int k = 0; k < 7; k++) {
            World w = world.twin();
            w.plants.get(seed).kind = KINDS.get(k);
            if (asTold(w, sheets[s], cell)) set += 1 << k;
        }
        return set;
    }

    int headings(int s, int seed, int cell) {
        if (s < 0 || s > 3) return finding(BEYOND);
        if (sheets[s] == null) return finding(MISSING);
        if (!seedOk(seed) || !cellOk(cell)) return finding(BEYOND);
        int n = 0;
        for (int h = 0; h < 4; h++) {
            World w = world.twin();
            w.plants.get(seed).heading = h;
            if (asTold(w, sheets[s], cell)) n++;
        }
        return n;
    }

    int dogs(int n) {
        if (n < 1 || n > 20) return finding(BEYOND);
        if (world.season + n > 99999) return finding(STATE);
        for (int i = 0; i < n; i++) {
            world.z = BigInteger.valueOf(world.z).multiply(BigInteger.valueOf(1103515245))
                    .add(BigInteger.valueOf(12345)).intValue();
            long draw = (world.z & 0xffffffffL) / 256;
            world.path[(int) (draw % 36)] = 0;
            world.pass();
        }
        return world.cells();
    }

    long odds(int n, int what) {
        if (n < 0 || n > 11 || what < 0 || what > 1) return finding(BEYOND);
        BigInteger above = BigInteger.valueOf(36 - world.cells()).pow(n);
        BigInteger below = BigInteger.valueOf(36).pow(n);
        return (what == 0 ? above : below).divide(above.gcd(below)).longValueExact();
    }

    int seed(int v) {
        int was = world.z;
        world.z = v;
        return was;
    }

    int feed(int bytes, int n) {
        if (n < 1 || n > 4) return finding(BEYOND);
        if (tape.length() + n > 120) return finding(FULL);
        for (int i = n - 1; i >= 0; i--) tape += (char) ((bytes >> (8 * i)) & 0xff);
        return tape.length();
    }

    int wipe() {
        int was = tape.length();
        tape = "";
        return was;
    }

    private List<Token> tokens;
    private int looked;

    private Token look() {
        return tokens.get(looked);
    }

    int text() {
        tokens = new ArrayList<>();
        Matcher m = Pattern.compile("[a-z]+|[0-9]+|;|[^ ]", Pattern.DOTALL).matcher(tape);
        while (m.find()) tokens.add(new Token(m.group(), m.start()));
        tokens.add(new Token("", tape.length()));
        looked = 0;
        tape = "";
        World w = world.twin();
        int items = 0;
        try {
            while (true) {
                item(w);
                items++;
                if (look().text.isEmpty()) break;
                if (!look().text.equals(";")) throw new Fault(look().place);
                looked++;
            }
        } catch (Fault f) {
            return -1 - f.place;
        }
        world = w;
        return items;
    }

    private int number(int most) throws Fault {
        Token t = look();
        if (!t.text.matches("[0-9]+") || new BigInteger(t.text).compareTo(BigInteger.valueOf(most)) > 0) {
            throw new Fault(t.place);
        }
        looked++;
        return Integer.parseInt(t.text);
    }

    private void item(World w) throws Fault {
        Token word = look();
        if (KINDS.contains(word.text)) {
            if (w.plants.size() > 7) throw new Fault(word.place);
            looked++;
            Plant p = new Plant(word.text, number(35), 0, 0);
            if (HEADINGS.contains(look().text)) {
                p.heading = HEADINGS.indexOf(look().text);
                looked++;
            }
            if (look().text.equals("aged")) {
                looked++;
                p.age = number(999);
            }
            w.plants.add(p);
        } else if (GROUNDS.contains(word.text)) {
            looked++;
            int cell = number(35);
            w.ground[cell] = GROUNDS.indexOf(word.text);
            if (w.ground[cell] != 0) w.path[cell] = 0;
        } else if (word.text.equals("path")) {
            looked++;
            int place = look().place;
            int cell = number(35);
            if (w.ground[cell] != 0) throw new Fault(place);
            w.path[cell] = number(99);
        } else {
            throw new Fault(word.place);
        }
    }

    int hold(int spot, int seed) {
        if (spot < 0 || spot > 9 || (seed != -1 && !seedOk(seed))) return finding(BEYOND);
        world.spots[spot] = seed;
        return 1;
    }

    int as(int spot, int kind) {
        if (spot < 0 || spot > 9 || kind < 0 || kind > 6) return finding(BEYOND);
        int seed = world.spots[spot];
        if (seed == -1) return finding(MISSING);
        for (String k = world.plants.get(seed).kind; !k.isEmpty(); k = PARENTS.get(KINDS.indexOf(k))) {
            if (k.equals(KINDS.get(kind))) return seed;
        }
        return finding(KIND);
    }

    int sheet(int s, int b, int n) {
        if (s < 0 || s > 3 || !List.of(0, 8, 16, 32).contains(b)) return finding(BEYOND);
        if (n < 0) return finding(SIZE);
        if (n > 40) return finding(BEYOND);
        bits[s] = b;
        sheets[s] = b == 0 ? null : new int[n];
        return b == 0 ? 0 : n;
    }

    int write(int s, int i, int v) {
        if (s < 0 || s > 3) return finding(BEYOND);
        if (sheets[s] == null) return finding(MISSING);
        if (i < 0 || i >= sheets[s].length) return finding(BEYOND);
        sheets[s][i] = v << (32 - bits[s]) >> (32 - bits[s]);
        return 1;
    }

    int copy(int s, int from, int t, int to, int n) {
        if (s < 0 || s > 3 || t < 0 || t > 3) return finding(BEYOND);
        if (sheets[s] == null || sheets[t] == null) return finding(MISSING);
        if (bits[s] != bits[t]) return finding(KIND);
        if (from < 0 || to < 0 || n < 0) return finding(BEYOND);
        if ((long) from + n > sheets[s].length || (long) to + n > sheets[t].length) return finding(BEYOND);
        int[] old = sheets[s].clone();
        for (int i = 0; i < n; i++) sheets[t][to + i] = old[from + i];
        return n;
    }

    int load(int s) {
        if (s < 0 || s > 3) return finding(BEYOND);
        if (sheets[s] == null) return finding(MISSING);
        int i = 0;
        while (i < sheets[s].length && i < 36 && sheets[s][i] >= 0 && sheets[s][i] <= 99) {
            if (world.ground[i] == 0) world.path[i] = sheets[s][i];
            i++;
        }
        return i;
    }

    int judge(int s) {
        if (s < 0 || s > 3) return finding(BEYOND);
        if (sheets[s] == null) return finding(MISSING);
        for (int i = 0; i < sheets[s].length; i++) {
            int c = sheets[s][i];
            if (!cellOk(c) || world.path[c] == 0) return i + 1;
            if (i > 0 && !World.around(sheets[s][i - 1]).contains(c)) return i + 1;
        }
        return 0;
    }

    int image() {
        kept = world.twin();
        return 1;
    }

    int undo() {
        if (kept == null) return finding(NONE);
        world = kept.twin();
        return world.season;
    }

    int tear() {
        int was = kept == null ? 0 : 1;
        kept = null;
        return was;
    }

    int count(int what) {
        if (what < 0 || what > 7) return finding(BEYOND);
        int held = 0;
        for (int s : world.spots) if (s >= 0) held++;
        return new int[] {world.season, world.plants.size(), Integer.bitCount(aliveSet()), world.cells(),
            Long.bitCount(world.benches()), tape.length(), world.z, held}[what];
    }

    int status(int which) {
        if (which < -1 || which > 6) return finding(BEYOND);
        return (int) (which < 0 ? Arrays.stream(told).sum() : told[which]);
    }
}
