import java.util.function.Supplier;

/**
 * The edges of what is not refused: the least and the most, the empty and the
 * full, the first and the last, ties, and what wraps around. Each line says
 * which words of the document it holds the class to. No object is asked more
 * than the 512 calls for which the document speaks.
 */
public final class EdgeTest {
    private static final int BEYOND = Parks.BEYOND;
    private static final int NONE = Parks.NONE;
    private static final int KIND = Parks.KIND;
    private static final int MISSING = Parks.MISSING;
    private static final int MIN = Integer.MIN_VALUE;
    private static final int MAX = Integer.MAX_VALUE;
    private static final long ALL = (1L << 36) - 1;

    private static final int SEED = 0;
    private static final int ANNUAL = 1;
    private static final int BULB = 2;
    private static final int RUNNER = 3;
    private static final int STRAGGLER = 4;
    private static final int TWINER = 5;
    private static final int CREEPER = 6;

    private static final Check CHECK = new Check();

    public static void main(String[] args) {
        apart();
        neighbours();
        groundAndPath();
        seedsToTheEighth();
        kinds();
        nearest();
        towardWhatCannotBeReached();
        odd();
        seasons();
        comingAndStaying();
        lastSeasons();
        manySeasons();
        wholePark();
        ways();
        cutting();
        mending();
        later();
        most();
        sowing();
        weeding();
        laid();
        dogs();
        odds();
        numbersOfZ();
        tape();
        texts();
        tokens();
        leftOvers();
        ninth();
        spots();
        sheets();
        written();
        copied();
        loaded();
        judged();
        images();
        counts();
        CHECK.end();
    }

    private static void due(String words, long got, long want) {
        CHECK.due(words, got, want);
    }

    /** A park with one seed. */
    private static SownPaths one(int kind, int cell, int heading) {
        SownPaths x = new SownPaths();
        x.sow(kind, cell, heading);
        return x;
    }

    private static SownPaths allGround(int v) {
        SownPaths x = new SownPaths();
        for (int c = 0; c < 36; c++) {
            x.ground(c, v);
        }
        return x;
    }

    private static void apart() {
        for (int a = 0; a < 36; a++) {
            SownPaths x = new SownPaths();
            for (int b = 0; b < 36; b++) {
                int rows = Math.abs(a / 6 - b / 6);
                int columns = Math.abs(a % 6 - b % 6);
                due("apart: " + a + " and " + b, x.apart(a, b), rows + columns);
            }
        }
    }

    private static void neighbours() {
        for (int c = 0; c < 36; c++) {
            SownPaths x = Parks.paths(c);
            for (int other = 0; other < 36; other++) {
                int want = x.apart(c, other) == 1 ? 1 : 0;
                due("cell " + other + ": its neighbours with path, " + c + " alone having it", x.cell(other, 2), want);
            }
            due("it alone is joined to it", x.joined(c), Parks.set(c));
        }
        SownPaths x = Parks.trodden(1);
        due("a corner has two neighbours", x.cell(0, 2), 2);
        due("a corner has two neighbours", x.cell(35, 2), 2);
        due("an edge has three", x.cell(5 + 6, 2), 3);
        due("others have four", x.cell(7, 2), 4);
        x.ground(7, 2);
        due("a wall has neighbours, too", x.cell(7, 2), 4);
        x.ground(8, 1);
        due("but water is none with path", x.cell(7, 2), 3);
    }

    private static void groundAndPath() {
        for (int v = 1; v <= 2; v++) {
            SownPaths x = Parks.trodden(40);
            due("ground " + v + " comes", x.ground(14, v), 0);
            due("path is 0 if " + v + " comes", x.cell(14, 1), 0);
            due("of this cell alone", x.where(0), ALL & ~Parks.set(14));
            due("the other comes", x.ground(14, 3 - v), v);
            due("there is no path then", x.cell(14, 1), 0);
            due("grass comes", x.ground(14, 0), 3 - v);
            due("without path", x.cell(14, 1), 0);
            due("grass can have it again", x.tread(14, 99), 0);
        }
        SownPaths x = one(BULB, 14, 1);
        x.ground(14, 2);
        due("a head stays where a wall comes", x.of(0, 1), 14);
        due("a head stays where a wall comes", x.cell(14, 3), 1);
        due("tread: 99 at most", x.tread(0, 99), 0);
        due("tread: 0, it is weeded", x.tread(0, 0), 99);
        due("tread: what it was", x.tread(0, 1), 0);
        due("ground: what it was, the same again", x.ground(14, 2), 2);
    }

    private static void seedsToTheEighth() {
        SownPaths x = new SownPaths();
        for (int i = 0; i < 8; i++) {
            due("sow: its number", x.sow(i % 7, 35, 3), i);
        }
        due("eight on a cell, as a set", x.cell(35, 3), 255);
        due("eight alive, as a set", x.now(2), 255);
        due("how many", x.count(2), 8);
        due("the eighth can be asked", x.of(7, 1), 35);
        due("a ninth: FULL", x.sow(0, 0, 0), Parks.FULL);
        for (int i = 0; i < 8; i++) {
            x.change(i, 3, 999);
        }
        due("none alive", x.now(2), 0);
        due("still eight", x.count(1), 8);
        due("those that aren't alive take room, too", x.sow(0, 0, 0), Parks.FULL);
    }

    private static void kinds() {
        int[] lives = {20, 4, 30, 15, 16, 20, 8};
        int[] treads = {12, 6, 32, 32, 16, 9, 6};
        for (int kind = 0; kind < 7; kind++) {
            SownPaths x = one(kind, 14, 3);
            due("lives of kind " + kind, x.of(0, 4), lives[kind]);
            due("tread of kind " + kind, x.of(0, 5), treads[kind]);
            due("season 1 of kind " + kind, x.go(1), 1);
            due("its tread", x.now(3), treads[kind]);
            x.go(40);
            due("how old it becomes", x.of(0, 3), lives[kind]);
            due("it isn't alive", x.of(0, 7), 0);
            x.change(0, 3, lives[kind] - 1);
            due("it is in its last season", x.of(0, 7), 1);
            due("as which set", x.now(2), 1);
            x.go(1);
            due("it isn't behind that", x.now(2), 0);
        }
    }

    private static void nearest() {
        SownPaths x = new SownPaths();
        x.sow(SEED, 15, 0);
        x.sow(SEED, 13, 0);
        x.sow(RUNNER, 14, 0);
        due("of several the least number, not the least cell", x.of(2, 6), 1);
        x.change(0, 1, 16);
        due("but the nearest first", x.of(2, 6), 3);
        x.change(1, 1, 14);
        due("not on its own cell: the next", x.of(2, 6), 1);
        x.change(0, 1, 14);
        due("all on its own cell: as a bulb, as a seed", x.of(2, 6), 0);
        x.ground(15, 1);
        due("all on its own cell: as a bulb, toward water", x.of(2, 6), 1);
        x.change(0, 1, 2);
        due("company that is farther than water", x.of(2, 6), 0);
        x.change(0, 3, 20);
        due("which isn't alive", x.of(2, 6), 1);
        x.change(0, 3, 19);
        due("alive in its last season", x.of(2, 6), 0);
        SownPaths w = one(BULB, 14, 0);
        w.ground(20, 1);
        w.ground(15, 1);
        w.ground(13, 1);
        due("of several waters the least cell", w.of(0, 6), 3);
        w.ground(13, 2);
        due("walls are no water", w.of(0, 6), 1);
        w.ground(15, 0);
        due("nor is grass", w.of(0, 6), 2);
        w.ground(0, 1);
        due("the nearest, not the least", w.of(0, 6), 2);
        w.ground(20, 0);
        due("of two headings the least", w.of(0, 6), 0);
        w.ground(0, 0);
        w.ground(35, 1);
        due("of two headings the least", w.of(0, 6), 1);
        w.change(0, 1, 35);
        w.change(0, 2, 2);
        due("it is there: as a seed", w.of(0, 6), 2);
        w.ground(34, 1);
        due("it is there, though other water is not", w.of(0, 6), 2);
        SownPaths first = one(BULB, 1, 0);
        first.ground(0, 1);
        first.ground(35, 1);
        due("the nearest water, which is cell 0", first.of(0, 6), 3);
        SownPaths toFirst = one(RUNNER, 1, 0);
        toFirst.sow(SEED, 0, 0);
        toFirst.sow(SEED, 35, 0);
        due("the nearest company, which is on cell 0", toFirst.of(0, 6), 3);
    }

    private static void towardWhatCannotBeReached() {
        SownPaths x = one(BULB, 14, 0);
        x.ground(15, 1);
        for (int i = 1; i <= 3; i++) {
            x.go(1);
            due("beside water it stays", x.of(0, 1), 14);
            due("its heading is one more", x.of(0, 2), 2);
            due("it treads where it stays", x.cell(14, 1), 32);
        }
        SownPaths y = one(BULB, 14, 0);
        y.ground(17, 1);
        y.ground(15, 2);
        y.go(1);
        due("before a wall it stays", y.of(0, 1), 14);
        due("its heading is one more", y.of(0, 2), 2);
        y.go(1);
        due("and it would go there again", y.of(0, 1), 14);
        SownPaths z = one(RUNNER, 14, 0);
        z.sow(ANNUAL, 15, 1);
        z.change(1, 3, 3);
        z.go(1);
        due("toward one that lives by then", z.of(0, 1), 15);
        due("its last season", z.of(1, 7), 0);
        z.go(1);
        due("alone: as it was headed", z.of(0, 1), 16);
    }

    private static void odd() {
        SownPaths x = one(CREEPER, 14, 3);
        due("a creeper of age 0", x.of(0, 6), 3);
        x.change(0, 3, 7);
        due("of odd age: one more, by 4", x.of(0, 6), 0);
        x.change(0, 3, 999);
        due("of age 999", x.of(0, 6), 0);
        x.change(0, 3, 998);
        due("of age 998", x.of(0, 6), 3);
        SownPaths t = one(TWINER, 14, 3);
        due("a twiner: one more, by 4", t.of(0, 6), 0);
        SownPaths s = one(STRAGGLER, 14, 3);
        due("a straggler in season 0", s.of(0, 6), 3);
        SownPaths y = new SownPaths();
        y.go(1);
        y.sow(STRAGGLER, 14, 3);
        due("a straggler in season 1, alone, no water: one more, by 4", y.of(0, 6), 0);
        y.ground(35, 1);
        due("alone, water: one more than a bulb", y.of(0, 6), 2);
        y.sow(SEED, 12, 0);
        due("company: one more than a runner, by 4", y.of(0, 6), 0);
        y.sow(RUNNER, 14, 3);
        due("a runner minds no seasons", y.of(2, 6), 3);
        SownPaths z = one(STRAGGLER, 14, 0);
        z.go(1);
        due("season 0 goes by: up", z.of(0, 1), 8);
        z.go(1);
        due("season 1 goes by: one more, right", z.of(0, 1), 9);
        due("its heading, too", z.of(0, 2), 1);
        z.go(1);
        due("season 2 goes by: right", z.of(0, 1), 10);
        z.go(1);
        due("season 3 goes by: down", z.of(0, 1), 16);
        SownPaths c = one(CREEPER, 14, 0);
        c.go(1);
        due("age 0: up", c.of(0, 1), 8);
        c.go(1);
        due("age 1: right", c.of(0, 1), 9);
        c.go(1);
        due("age 2: right", c.of(0, 1), 10);
        c.go(1);
        due("age 3: down", c.of(0, 1), 16);
    }

    private static void seasons() {
        SownPaths x = new SownPaths();
        due("no path stays none", x.go(40), 0);
        due("0 at least", x.now(3), 0);
        due("a season each", x.now(0), 40);
        x.tread(0, 1);
        x.tread(1, 2);
        due("one less", x.go(1), 1);
        due("one less", x.cell(1, 1), 1);
        due("0 at least", x.cell(0, 1), 0);
        SownPaths y = new SownPaths();
        y.sow(ANNUAL, 14, 1);
        y.change(0, 3, 4);
        y.go(3);
        due("not alive: it stays", y.of(0, 1), 14);
        due("not alive: its heading, too", y.of(0, 2), 1);
        due("not alive: its age, too", y.of(0, 3), 4);
        due("not alive: no path", y.now(1), 0);
        SownPaths z = new SownPaths();
        z.sow(ANNUAL, 13, 1);
        z.sow(SEED, 15, 3);
        due("two on a cell", z.go(1), 1);
        due("the greater tread, that comes second", z.cell(14, 1), 12);
        due("both are there", z.cell(14, 3), 3);
        SownPaths w = new SownPaths();
        w.sow(SEED, 13, 1);
        w.sow(ANNUAL, 15, 3);
        w.go(1);
        due("the greater tread, that came first", w.cell(14, 1), 12);
    }

    private static void comingAndStaying() {
        int[][] paths = {{0, 12}, {1, 12}, {12, 12}, {13, 12}, {14, 13}, {99, 98}};
        for (int[] path : paths) {
            SownPaths x = one(SEED, 14, 0);
            x.tread(8, path[0]);
            x.go(1);
            due("path becomes its tread, if it has less: " + path[0], x.cell(8, 1), path[1]);
        }
        SownPaths corner = one(SEED, 0, 3);
        for (int i = 0; i < 2; i++) {
            corner.go(1);
            due("in a corner it stays and turns, by 4", corner.of(0, 1) * 10 + corner.of(0, 2), i);
        }
        corner.go(1);
        due("then it goes", corner.of(0, 1), 1);
        SownPaths shut = one(SEED, 14, 0);
        for (int c : new int[] {8, 13, 15, 20}) {
            shut.ground(c, c % 2 + 1);
        }
        for (int i = 1; i <= 5; i++) {
            due("shut in, it stays", shut.go(1), 1);
            due("and turns by 4", shut.of(0, 2), i % 4);
        }
        SownPaths wet = one(SEED, 14, 0);
        wet.ground(14, 1);
        wet.ground(8, 2);
        due("staying on water it leaves no path", wet.go(1), 0);
        due("water has none", wet.cell(14, 1), 0);
        due("its age is more all the same", wet.of(0, 3), 1);
        wet.ground(14, 2);
        wet.change(0, 2, 0);
        due("nor on a wall", wet.go(1), 0);
    }

    private static void lastSeasons() {
        SownPaths x = new SownPaths();
        x.sow(SEED, 12, 1);
        x.sow(RUNNER, 14, 0);
        x.change(0, 3, 19);
        x.go(1);
        due("in its last season it goes", x.of(0, 1), 13);
        due("and isn't alive", x.of(0, 7), 0);
        due("the runner by a greater number has no company then", x.of(1, 1), 8);
        SownPaths y = new SownPaths();
        y.sow(RUNNER, 14, 0);
        y.sow(SEED, 12, 1);
        y.change(1, 3, 19);
        y.go(1);
        due("the runner by a less number has", y.of(0, 1), 13);
    }

    private static void manySeasons() {
        SownPaths x = Parks.busy();
        SownPaths y = Parks.busy();
        int last = -1;
        for (int i = 0; i < 40; i++) {
            last = y.go(1);
        }
        due("go: 40 at once are as one, 40 times", x.go(40), last);
        CHECK.holds("go: 40 at once are as one, 40 times", Parks.allOf(x).equals(Parks.allOf(y)));
        SownPaths foretold = Parks.crowded();
        SownPaths lived = Parks.crowded();
        for (int n = 0; n <= 60; n++) {
            due("there: behind " + n, foretold.there(n), lived.where(0));
            due("head: behind " + n, foretold.head(4, n), lived.of(4, 1));
            due("ahead: behind " + n, foretold.ahead(7, n), lived.cell(7, 1));
            lived.go(1);
        }
    }

    private static void wholePark() {
        SownPaths x = Parks.trodden(99);
        long corners = Parks.set(0, 5, 30, 35);
        due("now: all cells have path", x.now(1), 36);
        due("now: path of all together", x.now(3), 36 * 99);
        due("now: benches", x.now(4), 32);
        due("count: benches", x.count(4), 32);
        due("count: path", x.count(3), 36);
        due("where: path", x.where(0), ALL);
        due("where: benches, a corner is none", x.where(3), ALL & ~corners);
        due("joined: all", x.joined(35), ALL);
        due("groups: one", x.groups(), 1);
        due("way: across", x.way(0, 35), 10);
        due("way: across", x.way(30, 5), 10);
        due("parts: none", x.parts(0, 35), NONE);
        due("bridges: none", x.bridges(0, 35), 0);
        due("mend: nothing", x.mend(0, 35), 0);
        due("there: all", x.there(60), ALL);
        due("bare: not within 60", x.bare(), NONE);
        due("weed: all leave one group, the least", x.weed(), 0);
        due("go: how many", x.go(40), 36);
        SownPaths water = allGround(1);
        due("where: all water", water.where(1), ALL);
        due("where: no wall", water.where(2), 0);
        SownPaths wall = allGround(2);
        due("where: all wall", wall.where(2), ALL);
        due("where: no water", wall.where(1), 0);
        due("where: no path", wall.where(0), 0);
        SownPaths least = Parks.trodden(1);
        due("path of 1 is path: benches", least.now(4), 32);
        due("path of 1 is path: joined", least.joined(0), ALL);
        due("path of 1 is path: way", least.way(0, 35), 10);
        due("path of 1 is path: groups", least.groups(), 1);
        due("path of 1 is path: how many", least.now(1), 36);
        due("path of 1 is path: not any more", least.go(1), 0);
        SownPaths two = Parks.paths(0, 1, 2, 3, 7, 8);
        due("two benches", two.where(3), Parks.set(1, 2));
        due("two benches", two.now(4), 2);
        due("two benches", two.count(4), 2);
    }

    private static void ways() {
        SownPaths x = new SownPaths();
        due("way: no path, itself", x.way(9, 9), NONE);
        due("joined: no path", x.joined(9), 0);
        due("groups: no path", x.groups(), 0);
        x.tread(9, 1);
        due("way: itself", x.way(9, 9), 0);
        due("joined: itself", x.joined(9), Parks.set(9));
        due("groups: one", x.groups(), 1);
        due("way: its end has none", x.way(9, 10), NONE);
        due("way: its begin has none", x.way(10, 9), NONE);
        x.tread(16, 1);
        due("way: corners are no neighbours", x.way(9, 16), NONE);
        due("groups: two", x.groups(), 2);
        due("when: it is so now", x.when(9, 9), 0);
        // The longest way there can be without a short cut.
        SownPaths snake = new SownPaths();
        int[] turns = {11, 18};
        for (int c = 0; c < 36; c++) {
            if (c / 6 % 2 == 0) {
                snake.tread(c, 9);
            }
        }
        for (int c : turns) {
            snake.tread(c, 9);
        }
        due("way: round and round", snake.way(0, 29), 19);
        due("bridges: all between", snake.bridges(0, 29), 18);
        due("parts: the least", snake.parts(0, 29), 1);
        due("parts: the other way the same", snake.parts(29, 0), 1);
        due("joined: all of it", snake.joined(29), snake.where(0));
        SownPaths ring = new SownPaths();
        for (int c : new int[] {0, 1, 2, 3, 9, 15, 14, 13, 12, 6}) {
            ring.tread(c, 9);
        }
        due("way: the shorter of two", ring.way(6, 1), 2);
        due("way: the shorter of two", ring.way(12, 2), 4);
        due("bridges: a ring has none", ring.bridges(6, 9), 0);
    }

    private static void cutting() {
        SownPaths x = Parks.paths(2, 8, 14, 13, 12, 20, 26);
        due("parts: not its ends", x.parts(2, 8), NONE);
        due("parts: the least", x.parts(2, 26), 8);
        due("parts: the least, not the nearest", x.parts(26, 2), 8);
        due("bridges: not what leads elsewhere", x.bridges(2, 26), 3);
        due("bridges: not its ends", x.bridges(8, 20), 1);
        due("bridges: itself", x.bridges(14, 14), 0);
        due("parts: itself", x.parts(14, 14), NONE);
        due("bridges: none without path", x.bridges(3, 3), 0);
        due("bridges: not joined", x.bridges(2, 35), 0);
        due("parts: not joined", x.parts(2, 35), NONE);
        x.tread(35, 9);
        due("bridges: not joined, both have path", x.bridges(2, 35), 0);
        due("parts: not joined, both have path", x.parts(2, 35), NONE);
        due("parts: the last cell", Parks.paths(34, 35, 29).parts(29, 34), 35);
        due("parts: the first cell", Parks.paths(1, 0, 6).parts(6, 1), 0);
    }

    private static void mending() {
        SownPaths x = new SownPaths();
        due("mend: itself, if it has none", x.mend(9, 9), 1);
        due("mend: neighbours, both without", x.mend(9, 10), 2);
        x.tread(9, 1);
        due("mend: itself", x.mend(9, 9), 0);
        due("mend: the other has none", x.mend(9, 10), 1);
        due("mend: one has none", x.mend(10, 9), 1);
        x.tread(10, 1);
        due("mend: joined already", x.mend(9, 10), 0);
        due("mend: across", x.mend(0, 35), 11 - 2);
        for (int c = 0; c < 36; c++) {
            if (c != 14 && c != 15) {
                x.ground(c, 2);
            }
        }
        due("mend: only grass", x.mend(14, 15), 2);
        due("mend: a wall", x.mend(14, 16), NONE);
        due("mend: from a wall", x.mend(16, 14), NONE);
        SownPaths y = allGround(1);
        due("mend: water and itself", y.mend(3, 3), NONE);
        // From 0 to 4 five steps over new cells, or down, along and up over old ones.
        SownPaths z = Parks.paths(0, 6, 12, 13, 14, 15, 16, 10, 4);
        due("mend: a long way on path takes none", z.mend(0, 4), 0);
        z.tread(14, 0);
        due("mend: a long way on path takes one", z.mend(0, 4), 1);
        z.ground(14, 2);
        due("mend: round the wall", z.mend(0, 4), 3);
        SownPaths snake = allGround(2);
        for (int c : new int[] {0, 1, 2, 3, 4, 5, 11, 17, 16, 15, 14, 13, 12, 18, 24, 25, 26, 27, 28, 29}) {
            snake.ground(c, 0);
        }
        due("mend: all cells of a long way", snake.mend(0, 29), 20);
        due("mend: the other way", snake.mend(29, 0), 20);
    }

    private static void later() {
        SownPaths x = one(SEED, 30, 0);
        due("when: its first season", x.when(24, 24), 1);
        due("when: its last season", x.when(33, 33), 20);
        due("when: behind its last", x.when(32, 32), NONE);
        due("head: its last season", x.head(0, 20), 33);
        due("head: it stays then", x.head(0, 21), 33);
        due("head: it stays then", x.head(0, 60), 33);
        due("head: now", x.head(0, 0), 30);
        due("ahead: now", x.ahead(24, 0), 0);
        due("ahead: its tread", x.ahead(24, 1), 12);
        due("ahead: the last of it", x.ahead(24, 12), 1);
        due("ahead: gone", x.ahead(24, 13), 0);
        due("ahead: its last tread", x.ahead(33, 20), 12);
        due("ahead: 0 at least", x.ahead(33, 60), 0);
        due("there: the last of it", x.there(31), Parks.set(33));
        due("there: gone", x.there(32), 0);
        due("bare: now, before all that", x.bare(), 0);
        x.tread(0, 1);
        due("bare: when all is gone", x.bare(), 32);
        SownPaths b = one(BULB, 30, 0);
        due("when: a bulb goes all round", b.when(31, 31), 22);
        due("when: the fewest, though it comes again", b.when(24, 24), 1);
        due("bare: at 60", Parks.trodden(60).bare(), 60);
        due("bare: at 1", Parks.trodden(1).bare(), 1);
        due("there: at 60", Parks.trodden(61).there(60), ALL);
        due("ahead: at 60", Parks.trodden(61).ahead(35, 60), 1);
        due("when: faded before", Parks.paths(0, 2).when(0, 2), NONE);
    }

    private static void most() {
        SownPaths x = one(TWINER, 14, 2);
        due("kindFor: behind 0 all are alike, the least", x.kindFor(0, 0), SEED);
        due("headingFor: behind 0 all are alike, the least", x.headingFor(0, 0), 0);
        due("kindFor: behind 60 all is gone but a bulb's", x.kindFor(0, 60), BULB);
        x.change(0, 3, 999);
        due("kindFor: not alive as any", x.kindFor(0, 5), SEED);
        due("headingFor: not alive", x.headingFor(0, 5), 0);
        SownPaths y = one(SEED, 30, 3);
        due("headingFor: up and right are alike, up", y.headingFor(0, 5), 0);
        y.tread(24, 99);
        due("headingFor: where there is none yet", y.headingFor(0, 1), 1);
        for (int kind = 0; kind < 7; kind++) {
            SownPaths k = one(kind, 30, 3);
            k.ground(24, 1);
            k.ground(31, 1);
            due("kindFor: from kind " + kind, k.kindFor(0, 60), BULB);
            due("kindFor: the kind stays", k.of(0, 0), kind);
        }
        SownPaths old = one(SEED, 14, 0);
        old.change(0, 3, 19);
        due("kindFor: of age 19 as a seed, too", old.kindFor(0, 1), SEED);
        old.change(0, 3, 20);
        due("kindFor: of age 20 only as a bulb", old.kindFor(0, 1), BULB);
        old.change(0, 3, 30);
        due("kindFor: of age 30 as none", old.kindFor(0, 1), SEED);
        // Two seasons on from 14 a creeper, alone, would be on 16, a straggler on 9, a twiner on 21.
        SownPaths free = Parks.paths(14, 8, 2, 15, 9, 21);
        free.sow(SEED, 14, 0);
        free.change(0, 3, 1);
        due("kindFor: a creeper", free.kindFor(0, 2), CREEPER);
        free.tread(16, 50);
        due("kindFor: none", free.kindFor(0, 2), SEED);
        free.tread(9, 0);
        due("kindFor: a straggler", free.kindFor(0, 2), STRAGGLER);
        free.tread(21, 0);
        due("kindFor: a straggler or a twiner, the least", free.kindFor(0, 2), STRAGGLER);
        free.tread(9, 50);
        due("kindFor: a twiner", free.kindFor(0, 2), TWINER);
        free.sow(SEED, 26, 3);
        free.change(1, 3, 29);
        free.change(1, 0, BULB);
        free.tread(25, 50);
        free.tread(20, 0);
        due("kindFor: a runner toward company", free.kindFor(0, 1), RUNNER);
        SownPaths last = one(ANNUAL, 14, 3);
        last.ground(13, 1);
        last.ground(8, 1);
        last.ground(15, 1);
        due("headingFor: one cell in any case, where it stays or goes", last.headingFor(0, 1), 0);
        last.tread(14, 99);
        due("headingFor: down", last.headingFor(0, 1), 2);
        SownPaths left = Parks.paths(14, 15, 8, 20);
        left.sow(SEED, 14, 0);
        due("headingFor: the last one", left.headingFor(0, 1), 3);
        // Staying once on 14 and then going right would be four cells, but no heading of the four does that.
        SownPaths four = one(ANNUAL, 14, 0);
        for (int wall : new int[] {13, 2, 9, 20}) {
            four.ground(wall, 2);
        }
        due("headingFor: there are four headings", four.headingFor(0, 4), 1);
        four.change(0, 2, 1);
        due("headingFor: three cells to the right", four.go(4), 3);
        SownPaths creeper = Parks.paths(14);
        creeper.sow(SEED, 14, 0);
        creeper.tread(8, 99);
        creeper.tread(15, 99);
        creeper.change(0, 3, 1);
        due("kindFor: up and right have path", creeper.kindFor(0, 1), SEED);
        creeper.change(0, 2, 3);
        creeper.tread(13, 99);
        due("kindFor: all that it could tread has path", creeper.kindFor(0, 1), SEED);
        creeper.tread(8, 0);
        due("kindFor: up alone is free, a twiner or a creeper turns there, the least", creeper.kindFor(0, 1), TWINER);
    }

    private static void sowing() {
        SownPaths x = allGround(2);
        due("sowFor: no grass", x.sowFor(SEED, 0, 0, 5), NONE);
        x.ground(35, 0);
        due("sowFor: now", x.sowFor(SEED, 35, 35, 0), NONE);
        due("sowFor: the last cell", x.sowFor(SEED, 35, 35, 1), 35);
        due("sowFor: n 30", x.sowFor(SEED, 35, 35, 30), 35);
        due("sowFor: the last of an annual's path", x.sowFor(ANNUAL, 35, 35, 9), 35);
        due("sowFor: behind that", x.sowFor(ANNUAL, 35, 35, 10), NONE);
        due("sowFor: it isn't sown", x.count(1), 0);
        SownPaths y = new SownPaths();
        due("sowFor: the first cell", y.sowFor(SEED, 0, 0, 1), 0);
        due("sowFor: heading 0", y.sowFor(SEED, 8, 8, 1), 14);
        due("sowFor: age 0, an annual's fourth season", y.sowFor(ANNUAL, 6, 12, 4), 18);
        y.sow(RUNNER, 14, 0);
        due("sowFor: others go toward it", y.sowFor(SEED, 13, 13, 1), 12);
        y.tread(20, 9);
        due("sowFor: they are joined all the same", y.sowFor(CREEPER, 20, 20, 8), 0);
        y.ground(0, 1);
        y.ground(1, 2);
        due("sowFor: the least of grass", y.sowFor(CREEPER, 20, 20, 8), 2);
        SownPaths seven = new SownPaths();
        for (int i = 0; i < 7; i++) {
            seven.sow(SEED, 35, 3);
        }
        due("sowFor: room for one", seven.sowFor(SEED, 8, 8, 1), 14);
        due("sowFor: its room is still free", seven.sow(SEED, 0, 0), 7);
        due("without: the last", Parks.paths(30).without(0), NONE);
        SownPaths w = one(ANNUAL, 0, 1);
        w.sow(SEED, 12, 1);
        due("without: all alike, the least", w.without(0), 0);
        w.change(0, 3, 999);
        due("without: one that isn't alive makes no odds", w.without(3), 1);
        due("without: behind 60 all is gone", w.without(60), 0);
        w.change(1, 3, 999);
        due("without: none alive", w.without(3), 0);
        SownPaths eight = new SownPaths();
        for (int i = 0; i < 8; i++) {
            eight.sow(SEED, 35, 2);
        }
        eight.change(7, 1, 12);
        due("without: the eighth", eight.without(2), 7);
        SownPaths company = Parks.paths(12);
        company.sow(RUNNER, 13, 3);
        company.sow(SEED, 15, 0);
        // Alone the runner keeps to its heading, onto old path.
        due("without: it is no company then", company.without(1), 1);
    }

    private static void weeding() {
        due("weed: the only one, it leaves none", Parks.paths(35).weed(), 35);
        due("weed: the first of two", Parks.paths(0, 35).weed(), 0);
        due("weed: four arms", Parks.paths(8, 13, 14, 15, 20).weed(), 14);
        due("weed: of several the least", Parks.paths(0, 1, 2, 30, 31, 32).weed(), 1);
        due("weed: none parts, the least", Parks.paths(20, 21, 26, 27).weed(), 20);
        due("weed: more than two parts", Parks.paths(0, 1, 2, 3, 9, 15, 14, 21, 16).weed(), 15);
        due("weed: not one that stands alone", Parks.paths(0, 2, 3, 4).weed(), 3);
    }

    private static void laid() {
        SownPaths x = one(SEED, 12, 1);
        x.tread(13, 5);
        Parks.row(x, 0, 8, 5);
        due("fits: the first number is now", x.fits(0, 0, 13), 127);
        Parks.row(x, 0, 8, 4);
        due("fits: now it isn't so", x.fits(0, 0, 13), 0);
        due("headings: now it isn't so", x.headings(0, 0, 13), 0);
        Parks.row(x, 0, 8, 5, 12, 11, 10);
        due("fits: behind each season further on", x.fits(0, 0, 13), 1);
        due("headings: behind each season further on", x.headings(0, 0, 13), 1);
        Parks.row(x, 0, 8, 5, 12, 11, 9);
        due("fits: not behind the last", x.fits(0, 0, 13), 0);
        due("headings: not behind the last", x.headings(0, 0, 13), 0);
        Parks.row(x, 0, 8, -1, -1, 11, -1);
        due("fits: -1 is any", x.fits(0, 0, 13), 1);
        due("headings: -1 is any", x.headings(0, 0, 13), 1);
        Parks.row(x, 0, 32, 5, 4, 3, 2, 1, 0, 0);
        due("fits: only a twiner leaves it alone", x.fits(0, 0, 13), 32);
        due("headings: three leave it alone", x.headings(0, 0, 13), 3);
        x.sheet(0, 16, 0);
        due("fits: a sheet without numbers", x.fits(0, 0, 13), 127);
        due("headings: a sheet without numbers", x.headings(0, 0, 13), 4);
        x.ground(13, 1);
        Parks.row(x, 0, 8, 0, 0, 0);
        due("fits: water has none in any case", x.fits(0, 0, 13), 127);
        due("headings: water has none in any case", x.headings(0, 0, 13), 4);
        SownPaths y = Parks.paths(13);
        y.sow(CREEPER, 35, 2);
        y.sheet(3, 8, 40);
        for (int i = 0; i < 40; i++) {
            y.write(3, i, 50 - i);
        }
        due("fits: 40 numbers", y.fits(3, 0, 13), 127);
        due("headings: 40 numbers", y.headings(3, 0, 13), 4);
        y.write(3, 39, 10);
        due("fits: the last of them", y.fits(3, 0, 13), 0);
        due("headings: the last of them", y.headings(3, 0, 13), 0);
    }

    private static int draw(int z) {
        return (int) ((z & 0xffffffffL) / 256 % 36);
    }

    private static void dogs() {
        int negative = 0;
        for (int z : new int[] {0, 1, 2, 3, 7, -1, -7, MIN, MAX, 1 << 30}) {
            SownPaths x = Parks.trodden(99);
            x.seed(z);
            int next = z * 1103515245 + 12345;
            negative += next < 0 ? 1 : 0;
            due("dogs: one of all is weeded, z " + z, x.dogs(1), 35);
            due("dogs: the rest by 36 of z >>> 8, z " + z, x.where(0), ALL & ~Parks.set(draw(next)));
            due("dogs: z", x.count(6), next);
            due("dogs: a season", x.now(0), 1);
        }
        CHECK.holds("some z were below 0 and some not: " + negative, negative > 2 && negative < 8);
        SownPaths x = Parks.trodden(99);
        long left = ALL;
        int z = 1;
        for (int i = 0; i < 20; i++) {
            z = z * 1103515245 + 12345;
            left &= ~Parks.set(draw(z));
        }
        due("dogs: 20 draws", x.dogs(20), Long.bitCount(left));
        due("dogs: 20 draws", x.where(0), left);
        due("dogs: 20 draws", x.count(6), z);
        due("dogs: 20 seasons", x.now(3), 79L * Long.bitCount(left));
        SownPaths dry = allGround(1);
        due("dogs: no path is drawn", dry.dogs(20), 0);
        due("dogs: water stays", dry.where(1), ALL);
        // The first draw of a new park is of cell 14.
        SownPaths y = one(SEED, 20, 0);
        y.tread(14, 50);
        due("dogs: the draw is first, then the season", y.dogs(1), 1);
        due("dogs: what is trodden in that season stays", y.cell(14, 1), 12);
    }

    private static void odds() {
        SownPaths x = new SownPaths();
        due("odds: all without path", x.odds(11, 0) * 10 + x.odds(11, 1), 11);
        due("odds: no draw", x.odds(0, 0) * 10 + x.odds(0, 1), 11);
        long below = 1;
        for (int c = 0; c < 18; c++) {
            x.tread(c, 1);
            x.ground(35 - c, 1 + c % 2);
        }
        for (int n = 0; n <= 11; n++) {
            due("odds: half, water and walls are without path, n " + n, x.odds(n, 0), 1);
            due("odds: half, below the line, n " + n, x.odds(n, 1), below);
            below *= 2;
        }
        SownPaths y = Parks.trodden(1);
        y.tread(35, 0);
        long all = 1;
        for (int n = 0; n <= 11; n++) {
            due("odds: one cell, n " + n, y.odds(n, 0), 1);
            due("odds: one cell, below the line, n " + n, y.odds(n, 1), all);
            all *= 36;
        }
        y.tread(35, 9);
        for (int n = 1; n <= 11; n++) {
            due("odds: no cell, n " + n, y.odds(n, 0), 0);
            due("odds: no cell, lowest terms, n " + n, y.odds(n, 1), 1);
        }
        due("odds: no cell, no draw", y.odds(0, 0), 1);
        due("odds: no cell, no draw", y.odds(0, 1), 1);
        due("odds: nothing was drawn", y.count(6), 1);
        SownPaths z = Parks.paths(0, 1, 2, 3, 4, 5, 6, 7, 8);
        due("odds: 27 of 36 are 3 of 4", z.odds(3, 0), 27);
        due("odds: 27 of 36 are 3 of 4", z.odds(3, 1), 64);
    }

    private static void numbersOfZ() {
        SownPaths x = new SownPaths();
        int[] all = {MIN, MAX, 0, -1, BEYOND, NONE, KIND, MISSING, Parks.SIZE, Parks.STATE, Parks.FULL};
        int was = 1;
        for (int z : all) {
            due("seed: any int", x.seed(z), was);
            due("count(6): any int", x.count(6), z);
            was = z;
        }
        due("these are no findings", x.status(-1), 0);
    }

    private static void tape() {
        SownPaths x = new SownPaths();
        due("wipe: it had none", x.wipe(), 0);
        due("feed: the lowest byte", x.feed(0x73656577, 1), 1);
        due("feed: the lowest two, the highest first", x.feed(0x78786174, 2), 3);
        due("feed: the lowest three", x.feed(0x78657220, 3), 6);
        due("feed: all four", x.feed(0x32313b77, 4), 10);
        due("feed: how many it has", x.feed(0x616c6c33, 4), 14);
        due("they stand in that order", x.text(), 2);
        due("water 21", x.where(1), Parks.set(21));
        due("wall 3", x.where(2), Parks.set(3));
        for (int n = 1; n <= 4; n++) {
            SownPaths y = new SownPaths();
            for (int i = 1; i * n <= 120; i++) {
                due("feed: up to 120, by " + n, y.feed(-1, n), i * n);
            }
            due("feed: 120 at most", y.feed(-1, 1), Parks.FULL);
            due("count: bytes", y.count(5), 120);
            due("wipe: how many it had", y.wipe(), 120);
            due("wipe: none then", y.wipe(), 0);
            due("feed: from the begin", y.feed(-1, n), n);
            due("a byte that begins no token", y.text(), -1);
        }
    }

    private static void texts() {
        SownPaths x = new SownPaths();
        String longest = "seed 0;".repeat(8) + " ".repeat(57) + "wall 14";
        due("text: 120 bytes", longest.length(), 120);
        due("text: 120 bytes", Parks.read(x, longest), 9);
        due("text: eight seeds", x.count(1), 8);
        due("text: the last item", x.where(2), Parks.set(14));
        due("text: the tape is empty", x.count(5), 0);
        due("text: an empty tape", x.text(), -1);
        SownPaths y = new SownPaths();
        due("text: the least of all", Parks.read(y, "seed 0 up aged 0;path 0 0;water 1;wall 2"), 4);
        due("text: the most of all", Parks.read(y, "seed 35 left aged 999;path 35 99;grass 1;grass 2"), 4);
        due("text: head 0", y.of(0, 1), 0);
        due("text: head 35", y.of(1, 1), 35);
        due("text: left", y.of(1, 2), 3);
        due("text: age 999", y.of(1, 3), 999);
        due("text: path 99", y.cell(35, 1), 99);
        due("text: grass", y.where(1) | y.where(2), 0);
        String[] kinds = {"seed", "annual", "bulb", "runner", "straggler", "twiner", "creeper"};
        String[] headings = {"up", "right", "down", "left"};
        for (int kind = 0; kind < 7; kind++) {
            for (int heading = 0; heading < 4; heading++) {
                SownPaths z = new SownPaths();
                String item = kinds[kind] + "9" + headings[heading];
                due("text: " + item + " aged, too early an end", Parks.read(z, item + " aged"), -1 - item.length() - 5);
                due("text: " + item, Parks.read(z, item), 1);
                due("text: its kind", z.of(0, 0), kind);
                due("text: its heading", z.of(0, 2), heading);
                due("text: up without", Parks.read(z, kinds[kind] + " 35 aged 5"), 1);
                due("text: up without", z.of(1, 2), 0);
                due("text: its age", z.of(1, 3), 5);
            }
        }
        SownPaths w = Parks.paths(7, 8, 9);
        due("text: path is 0 where water and walls come", Parks.read(w, "water 7;wall 8;grass 9;grass 8"), 4);
        due("text: path is 0 where water and walls come", w.where(0), Parks.set(9));
        due("text: a seed leaves no path", Parks.read(w, "seed 20"), 1);
        due("text: a seed leaves no path", w.where(0), Parks.set(9));
    }

    private static void fault(String text, int place) {
        due("\"" + text + "\": its fault", Parks.read(Parks.paths(0), text), -1 - place);
    }

    /** Tokens are each as long as can be, and only blanks may stand between. */
    private static void tokens() {
        fault("seedup 1", 0);
        fault("seed 1upaged 3", 6);
        fault("seed 1up2", 8);
        fault("seed 1agedx", 6);
        fault("path 1 2path 3 4", 8);
        fault("path 12", 7);
        fault("pathx 1 2", 0);
        fault("seed 3 6", 7);
        fault("seed 350", 5);
        fault("seed 36", 5);
        fault("path 1 100", 7);
        fault("path 1 999", 7);
        fault("path 36 3", 5);
        fault("path 64 3", 5);
        fault("path 99 3", 5);
        fault("seed 64", 5);
        fault("wall 64", 5);
        fault("water 36", 6);
        fault("wall 36", 5);
        fault("grass 36", 6);
        fault("seed 1 aged 1000", 12);
        fault("seed 1 aged 9999999999", 12);
        fault("seed 1 aged", 11);
        fault("seed 1 aged ", 12);
        fault("seed 1 aged;", 11);
        fault("seed 1 aged up", 12);
        fault("seed 1 aged 3 down", 14);
        fault("seed 1 down down", 12);
        fault("seed 1 ; ; seed 2", 9);
        fault(";seed 1", 0);
        fault("seed 1;;seed 2", 7);
        fault("seed 1,seed 2", 6);
        fault("seed 1\tup", 6);
        fault("seed 1\nup", 6);
        fault("seed 1\rup", 6);
        fault("seed 1 Up", 7);
        fault("seed 1 uP", 7);
        fault("SEED 1", 0);
        fault("seed 1 \u0080", 7);
        fault("seed 1 \u00ff", 7);
        fault("seed +1", 5);
        fault("seed 1.0", 6);
        fault("seed 0x1", 6);
        fault("grass", 5);
        fault("grass x", 6);
        fault("water up", 6);
        fault("wall 1 aged 2", 7);
        fault("path 1", 6);
        fault("path 1 ", 7);
        fault("path 1;", 6);
        fault("path x 1", 5);
        fault("path 1 x", 7);
        fault("path 1 2 ;  ", 12);
        fault("aged 1", 0);
        fault("left 1", 0);
        fault("35", 0);
        fault("water 4;path 4 1", 13);
        fault("wall 4;path 4 0", 12);
        fault("wall 4;path 4", 12);
        fault("wall 4;path 4 100", 12);
        fault("wall 4;grass 4;path 4 100", 22);
        due("grass by then", Parks.read(new SownPaths(), "wall 4;grass 4;path 4 99"), 3);
        due("blanks at both ends and between", Parks.read(new SownPaths(), "  wall   4  ;  seed  1  aged  2  "), 2);
        fault("wall4;seed1up;seed1aged2;path3 2;seed1upaged2", 38);
        due("no blanks where none must be", Parks.read(new SownPaths(), "wall4;seed1up;seed1aged2;path3 2"), 4);
    }

    /** What a tape had before it was empty is not behind what comes to it. */
    private static void leftOvers() {
        for (String old : new String[] {"upupupupupupupup", "9999999999999999", ";;;;;;;;;;;;;;;;", "!!!!!!!!!!!!!!!!"}) {
            SownPaths x = new SownPaths();
            Parks.feed(x, old);
            due("wiped: " + old, x.wipe(), 16);
            due("a word last, over " + old, Parks.read(x, "seed 5 down"), 1);
            due("its heading", x.of(0, 2), 2);
            due("a fault empties: " + old, Parks.read(x, old), -1);
            due("a number last, over " + old, Parks.read(x, "seed 3"), 1);
            due("its cell", x.of(1, 1), 3);
            due("again a fault: " + old, Parks.read(x, old), -1);
            due("too early, over " + old, Parks.read(x, "wall"), -1 - 4);
            due("empty, over " + old, x.text(), -1);
        }
    }

    private static void ninth() {
        SownPaths x = Parks.crowded();
        due("the word of a ninth seed", Parks.read(x, "seed 1"), -1);
        due("before what stands behind it", Parks.read(x, "  creeper x"), -1 - 2);
        due("not before what stands ahead of it", Parks.read(x, "wall 99;seed 1"), -1 - 5);
        due("its own place", Parks.read(x, "wall 9;path 10 3; annual 1"), -1 - 18);
        due("nothing came", x.where(2) + x.where(0), 0);
        due("other items need no room", Parks.read(x, "wall 9;path 10 3"), 2);
        SownPaths y = new SownPaths();
        due("a ninth in one text", Parks.read(y, "seed 0;".repeat(8) + "bulb 3"), -1 - 56);
        due("none came", y.count(1), 0);
        due("eight in one text", Parks.read(y, "seed 0;".repeat(7) + "bulb 3"), 8);
        due("the eighth", y.of(7, 0), BULB);
    }

    private static void spots() {
        SownPaths x = one(STRAGGLER, 14, 0);
        x.sow(CREEPER, 15, 0);
        due("hold: nothing where nothing is", x.hold(3, -1), 1);
        due("count: none", x.count(7), 0);
        for (int spot = 0; spot <= 9; spot++) {
            due("hold: a seed on each", x.hold(spot, spot % 2), 1);
        }
        due("count: ten", x.count(7), 10);
        for (int spot = 0; spot <= 9; spot++) {
            due("as: a seed", x.as(spot, SEED), spot % 2);
            due("as: its own kind", x.as(spot, spot % 2 == 0 ? STRAGGLER : CREEPER), spot % 2);
            due("as: not the other's", x.as(spot, spot % 2 == 0 ? CREEPER : STRAGGLER), KIND);
        }
        due("hold: another one", x.hold(0, 1), 1);
        due("as: the other one", x.as(0, CREEPER), 1);
        due("hold: nothing", x.hold(0, -1), 1);
        due("as: nothing", x.as(0, SEED), MISSING);
        due("count: nine", x.count(7), 9);
        x.change(1, 3, 999);
        due("as: alive or not", x.as(1, ANNUAL), 1);
        x.change(1, 0, SEED);
        due("as: its kind by now", x.as(1, ANNUAL), KIND);
        due("as: what it is above", x.as(2, BULB), 0);
        due("as: what it is above", x.as(2, RUNNER), 0);
        x.change(0, 0, BULB);
        due("as: not what is under it", x.as(2, RUNNER), KIND);
        due("as: not what is far under it", x.as(2, STRAGGLER), KIND);
    }

    private static void sheets() {
        SownPaths x = new SownPaths();
        for (int bits : new int[] {8, 16, 32}) {
            due("sheet: 40 numbers", x.sheet(3, bits, 40), 40);
            due("write: the last", x.write(3, 39, 1), 1);
            due("write: behind the last", x.write(3, 40, 1), BEYOND);
            due("write: ahead of the first", x.write(3, -1, 1), BEYOND);
            due("sheet: fewer", x.sheet(3, bits, 1), 1);
            due("write: the only one", x.write(3, 0, 1), 1);
            due("write: behind it", x.write(3, 1, 1), BEYOND);
            due("sheet: none", x.sheet(3, bits, 0), 0);
            due("write: there is none", x.write(3, 0, 1), BEYOND);
            due("sheet: bits 0, with a number", x.sheet(3, 0, 40), 0);
            due("write: it is missing", x.write(3, 0, 1), MISSING);
            due("sheet: missing again", x.sheet(3, 0, 0), 0);
            due("load: it is missing", x.load(3), MISSING);
        }
        for (int c = 0; c < 36; c++) {
            x.tread(c, 9);
        }
        x.sheet(0, 8, 40);
        for (int i = 0; i < 40; i++) {
            x.write(0, i, 7);
        }
        x.sheet(0, 8, 40);
        due("sheet: made anew all are 0", x.load(0), 36);
        due("sheet: made anew all are 0", x.where(0), 0);
        due("the others are missing yet", x.judge(1), MISSING);
        due("the others are missing yet", x.judge(2), MISSING);
    }

    /** What path of cell 0 is by a number of so many bits; -1 if it is none. */
    private static int asPath(int bits, int v) {
        SownPaths x = new SownPaths();
        Parks.row(x, 0, bits, v);
        return x.load(0) == 1 ? x.cell(0, 1) : -1;
    }

    private static void written() {
        due("8 bits: 99", asPath(8, 99), 99);
        due("8 bits: the lowest bits", asPath(8, 256 + 99), 99);
        due("8 bits: the lowest bits", asPath(8, MIN), 0);
        due("8 bits: their sign", asPath(8, 128), -1);
        due("8 bits: their sign", asPath(8, 255), -1);
        due("8 bits: 127 is no path", asPath(8, 127), -1);
        due("16 bits: 99", asPath(16, 99), 99);
        due("16 bits: 256 + 99", asPath(16, 256 + 99), -1);
        due("16 bits: the lowest bits", asPath(16, 65536 + 99), 99);
        due("16 bits: the lowest bits", asPath(16, MIN + 5), 5);
        due("16 bits: their sign", asPath(16, 65535), -1);
        due("16 bits: their sign", asPath(16, 32768), -1);
        due("32 bits: 99", asPath(32, 99), 99);
        due("32 bits: 65536 + 99", asPath(32, 65536 + 99), -1);
        due("32 bits: the least", asPath(32, MIN), -1);
        SownPaths x = one(SEED, 35, 0);
        for (int[] any : new int[][] {{8, 255}, {8, -1}, {8, MAX}, {16, 65535}, {16, -1}, {32, -1}}) {
            Parks.row(x, 0, any[0], any[1]);
            due("told with its sign: " + any[1] + " of " + any[0] + " bits is -1, any", x.fits(0, 0, 0), 127);
        }
        for (int[] none : new int[][] {{8, 128}, {8, 254}, {16, 255}, {16, 32768}, {32, 255}, {32, 65535}, {32, MAX}}) {
            Parks.row(x, 0, none[0], none[1]);
            due("told with its sign: " + none[1] + " of " + none[0] + " bits is not", x.fits(0, 0, 0), 0);
        }
    }

    private static void copied() {
        SownPaths x = new SownPaths();
        x.sheet(0, 16, 40);
        x.sheet(1, 16, 40);
        for (int i = 0; i < 40; i++) {
            x.write(0, i, i + 1);
        }
        due("copy: all", x.copy(0, 0, 1, 0, 40), 40);
        due("copy: all", x.load(1), 36);
        due("copy: the first", x.cell(0, 1), 1);
        due("copy: the last for which there is a cell", x.cell(35, 1), 36);
        due("copy: all onto itself", x.copy(0, 0, 0, 0, 40), 40);
        due("copy: none", x.copy(0, 40, 1, 40, 0), 0);
        due("copy: one too many", x.copy(0, 0, 1, 0, 41), BEYOND);
        due("copy: one too far", x.copy(0, 1, 1, 0, 40), BEYOND);
        due("copy: one too far there", x.copy(0, 0, 1, 1, 40), BEYOND);
        due("copy: the last", x.copy(0, 39, 1, 0, 1), 1);
        x.load(1);
        due("copy: the last", x.cell(0, 1), 40);
        due("copy: only it", x.cell(1, 1), 2);
        due("copy: onto itself, behind", x.copy(0, 0, 0, 1, 39), 39);
        x.load(0);
        for (int i = 0; i < 36; i++) {
            due("copy: as they all were", x.cell(i, 1), Math.max(1, i));
        }
        due("copy: onto itself, ahead", x.copy(0, 2, 0, 0, 38), 38);
        x.load(0);
        for (int i = 0; i < 36; i++) {
            due("copy: as they all were", x.cell(i, 1), i + 2);
        }
        due("copy: the other sheet is as it was", x.load(1), 36);
        due("copy: the other sheet is as it was", x.cell(1, 1), 2);
    }

    private static void loaded() {
        SownPaths x = Parks.trodden(50);
        Parks.row(x, 0, 32, 0, 99, 100);
        due("load: to the first that isn't 0 to 99", x.load(0), 2);
        due("load: 0", x.cell(0, 1), 0);
        due("load: 99", x.cell(1, 1), 99);
        due("load: the rest is as it was", x.now(3), 99 + 34 * 50);
        Parks.row(x, 0, 32, 7, -1, 8);
        due("load: to the first that isn't 0 to 99", x.load(0), 1);
        due("load: from cell 0 on", x.cell(0, 1), 7);
        due("load: not behind that", x.cell(2, 1), 50);
        Parks.row(x, 0, 8, 200);
        due("load: of 8 bits 200 is below 0", x.load(0), 0);
        x.sheet(0, 8, 0);
        due("load: no numbers", x.load(0), 0);
        for (int n : new int[] {35, 36, 37, 40}) {
            SownPaths y = Parks.trodden(50);
            y.sheet(2, 8, n);
            due("load: of " + n, y.load(2), Math.min(n, 36));
            due("load: of " + n, y.where(0), n < 36 ? Parks.set(35) : 0);
        }
        SownPaths z = new SownPaths();
        z.sow(SEED, 3, 1);
        z.ground(0, 1);
        z.ground(2, 2);
        Parks.row(z, 1, 8, 5, 6, 7, 8);
        due("load: water and walls are left as they are", z.load(1), 4);
        due("load: they have no path", z.where(0), Parks.set(1, 3));
        due("load: each to its own cell", z.cell(3, 1), 8);
        due("load: they stay", z.where(1) * 8 + z.where(2), 12);
        Parks.row(z, 1, 8, -1, 9);
        due("load: it ends at water's, too", z.load(1), 0);
        Parks.row(z, 1, 8, 1, 9, 100);
        due("load: it ends at a wall's, too", z.load(1), 2);
    }

    private static int verdict(SownPaths x, int... cells) {
        Parks.row(x, 1, 16, cells);
        return x.judge(1);
    }

    private static void judged() {
        SownPaths x = Parks.trodden(5);
        due("judge: no numbers", verdict(x), 0);
        due("judge: the first cell", verdict(x, 0), 0);
        due("judge: the last cell", verdict(x, 35), 0);
        due("judge: no cell", verdict(x, -1), 1);
        due("judge: no cell", verdict(x, 36), 1);
        due("judge: no cell, later", verdict(x, 35, 36), 2);
        due("judge: up, right, down, left", verdict(x, 14, 8, 9, 15, 14), 0);
        due("judge: not itself", verdict(x, 14, 14), 2);
        due("judge: not the next row", verdict(x, 5, 6), 2);
        due("judge: not the row before", verdict(x, 6, 5), 2);
        due("judge: not by a corner", verdict(x, 0, 7), 2);
        due("judge: the last isn't so", verdict(x, 0, 1, 2, 3, 5), 5);
        due("judge: the first that isn't so", verdict(x, 0, 2, 9, 99), 2);
        int[] toAndFro = new int[40];
        for (int i = 0; i < 40; i++) {
            toAndFro[i] = i % 2;
        }
        due("judge: forty", verdict(x, toAndFro), 0);
        toAndFro[39] = 0;
        due("judge: the fortieth isn't so", verdict(x, toAndFro), 40);
        x.tread(1, 0);
        due("judge: the first has no path", verdict(x, 1, 2), 1);
        due("judge: one between has none", verdict(x, 0, 1, 2), 2);
        x.ground(7, 1);
        due("judge: water", verdict(x, 6, 7), 2);
    }

    private static void images() {
        SownPaths x = new SownPaths();
        due("tear: nothing is kept", x.tear(), 0);
        due("image: of a new park", x.image(), 1);
        x.sow(SEED, 3, 0);
        x.go(7);
        due("undo: season", x.undo(), 0);
        due("undo: no seeds", x.count(1), 0);
        due("undo: no path", x.count(3), 0);
        due("undo: again", x.undo(), 0);
        x.go(3);
        due("image: the latest", x.image(), 1);
        due("image: the latest", x.image(), 1);
        x.go(1);
        due("undo: it stays", x.undo(), 3);
        x.go(1);
        due("undo: it stays", x.undo(), 3);
        due("tear: something was kept, once", x.tear(), 1);
        due("tear: nothing now", x.tear(), 0);
        due("undo: nothing is kept", x.undo(), NONE);
        due("undo: the park stays", x.now(0), 3);
        SownPaths y = Parks.busy();
        due("count: spots", y.count(7), 2);
        y.wipe();
        Parks.feed(y, "wall");
        y.sheet(0, 0, 0);
        Parks.row(y, 1, 8, 12, 13);
        for (int i = 0; i < 10; i++) {
            y.hold(i, i % 3);
        }
        y.status(9);
        int told = y.status(-1);
        due("undo: season", y.undo(), 1);
        due("undo: not the tape", y.count(5), 4);
        due("undo: not a sheet", y.judge(0), MISSING);
        due("undo: not a sheet", y.judge(1), 0);
        due("undo: spots", y.count(7), 2);
        due("undo: spots", y.as(9, CREEPER), 2);
        due("undo: z", y.count(6), 77);
        due("undo takes none back", y.status(-1), told + 1);
        y.tear();
        due("tear takes none back", y.status(-1), told + 1);
        Supplier<SownPaths> eight = Parks::crowded;
        SownPaths z = eight.get();
        z.image();
        for (int i = 0; i < 8; i++) {
            z.change(i, 0, 6 - i % 7);
            z.change(i, 1, 35);
            z.change(i, 2, 3 - i % 4);
            z.change(i, 3, 999);
        }
        z.undo();
        SownPaths never = eight.get();
        for (int i = 0; i < 8; i++) {
            for (int what = 0; what <= 3; what++) {
                due("undo: seed " + i + ", " + what, z.of(i, what), never.of(i, what));
            }
        }
    }

    private static void counts() {
        SownPaths x = Parks.crowded();
        x.change(0, 3, 20);
        x.change(7, 3, 20);
        due("count: seeds", x.count(1), 8);
        due("count: those alive", x.count(2), 6);
        due("now: those alive, as a set", x.now(2), 126);
        SownPaths y = new SownPaths();
        for (int which = -1; which <= 6; which++) {
            due("status: none yet", y.status(which), 0);
        }
        for (int i = 1; i <= 100; i++) {
            y.undo();
        }
        due("status: each is counted", y.status(3), 100);
        due("status: no other", y.status(0) + y.status(1) + y.status(2) + y.status(4) + y.status(5) + y.status(6), 0);
        due("status: another one", y.status(7), BEYOND);
        due("status: counted from then on", y.status(0), 1);
        due("status: another one", y.status(MIN), BEYOND);
        due("status: another one", y.status(MAX), BEYOND);
        due("status: all", y.status(-1), 103);
    }
}
