/**
 * Each promise of the document: ordinary inputs, the edges that it names, and
 * wrong inputs. What is due was worked out by hand.
 */
public final class PromiseTest {
    private static final int BEYOND = Parks.BEYOND;
    private static final int FULL = Parks.FULL;
    private static final int KIND = Parks.KIND;
    private static final int NONE = Parks.NONE;
    private static final int STATE = Parks.STATE;
    private static final int MISSING = Parks.MISSING;
    private static final int SIZE = Parks.SIZE;
    private static final int MIN = Integer.MIN_VALUE;
    private static final int MAX = Integer.MAX_VALUE;
    private static final int[] NO_CELLS = {-1, 36, MIN, MAX};

    private static final Check CHECK = new Check();

    public static void main(String[] args) {
        newObject();
        ground();
        cell();
        tread();
        sow();
        of();
        turns();
        change();
        apart();
        go();
        now();
        where();
        way();
        joined();
        groups();
        partsAndBridges();
        mend();
        ahead();
        head();
        when();
        bare();
        there();
        kindFor();
        headingFor();
        sowFor();
        without();
        weed();
        fits();
        headings();
        dogs();
        odds();
        seed();
        feed();
        wipe();
        text();
        textFaults();
        hold();
        as();
        sheet();
        write();
        copy();
        load();
        judge();
        imageUndoTear();
        count();
        status();
        CHECK.end();
    }

    private static void due(String call, long got, long want) {
        CHECK.due(call, got, want);
    }

    /** A number of a sheet of 8 bits: no call tells it, but it can be held against the path of cell 0. */
    private static void holds(String what, SownPaths x, int s, int i, int want) {
        x.sheet(3, 8, 1);
        due(what + ": copied", x.copy(s, i, 3, 0, 1), 1);
        if (x.count(1) == 0) {
            x.sow(0, 35, 0);
        }
        x.tread(0, want);
        due(what, x.fits(3, 0, 0), 127);
    }

    private static void newObject() {
        SownPaths x = new SownPaths();
        for (int what = 0; what <= 7; what++) {
            due("new count(" + what + ")", x.count(what), what == 6 ? 1 : 0);
        }
        for (int what = 0; what <= 3; what++) {
            due("new where(" + what + ")", x.where(what), 0);
        }
        for (int c = 0; c < 36; c++) {
            for (int what = 0; what <= 3; what++) {
                due("new cell(" + c + "," + what + ")", x.cell(c, what), 0);
            }
        }
        for (int i = -1; i <= 6; i++) {
            due("new status(" + i + ")", x.status(i), 0);
        }
        due("new tear()", x.tear(), 0);
        due("new wipe()", x.wipe(), 0);
        due("new undo()", x.undo(), NONE);
        for (int s = 0; s < 4; s++) {
            due("new judge(" + s + ")", x.judge(s), MISSING);
        }
        for (int spot = 0; spot < 10; spot++) {
            due("new as(" + spot + ",0)", x.as(spot, 0), MISSING);
        }
        SownPaths other = new SownPaths();
        x.ground(3, 1);
        due("another object", other.cell(3, 0), 0);
    }

    private static void ground() {
        SownPaths x = new SownPaths();
        due("ground(0,1)", x.ground(0, 1), 0);
        due("ground(0,2)", x.ground(0, 2), 1);
        due("cell(0,0)", x.cell(0, 0), 2);
        due("ground(0,0)", x.ground(0, 0), 2);
        due("cell(0,0)", x.cell(0, 0), 0);
        due("ground(35,2)", x.ground(35, 2), 0);
        x.tread(7, 40);
        due("grass on grass", x.ground(7, 0), 0);
        due("path stays on grass", x.cell(7, 1), 40);
        due("water comes", x.ground(7, 1), 0);
        due("no path on water", x.cell(7, 1), 0);
        due("grass comes", x.ground(7, 0), 1);
        due("no path comes back", x.cell(7, 1), 0);
        x.tread(7, 40);
        x.ground(7, 2);
        due("no path on a wall", x.cell(7, 1), 0);
        for (int c : NO_CELLS) {
            due("ground(" + c + ",0)", x.ground(c, 0), BEYOND);
        }
        due("ground(0,-1)", x.ground(0, -1), BEYOND);
        due("ground(0,3)", x.ground(0, 3), BEYOND);
        due("nothing changed", x.where(1) | x.where(2), Parks.set(7, 35));
    }

    private static void cell() {
        SownPaths x = Parks.paths(1, 6, 8, 13, 35);
        due("cell(7,2)", x.cell(7, 2), 4);
        due("cell(7,1)", x.cell(7, 1), 0);
        due("cell(1,1)", x.cell(1, 1), 50);
        due("cell(0,2)", x.cell(0, 2), 2);
        due("cell(5,2): the row's end has no neighbour beyond it", x.cell(5, 2), 0);
        due("cell(34,2)", x.cell(34, 2), 1);
        due("cell(29,2)", x.cell(29, 2), 1);
        x.sow(0, 7, 0);
        x.sow(1, 8, 0);
        x.sow(1, 7, 0);
        x.change(2, 3, 999);
        due("cell(7,3), one not alive", x.cell(7, 3), 5);
        due("cell(8,3)", x.cell(8, 3), 2);
        due("cell(9,3)", x.cell(9, 3), 0);
        x.ground(9, 1);
        due("cell(9,0)", x.cell(9, 0), 1);
        for (int c : NO_CELLS) {
            due("cell(" + c + ",0)", x.cell(c, 0), BEYOND);
        }
        due("cell(0,-1)", x.cell(0, -1), BEYOND);
        due("cell(0,4)", x.cell(0, 4), BEYOND);
        SownPaths y = Parks.paths(6);
        due("a row's begin is no neighbour of the end before", y.cell(5, 2), 0);
    }

    private static void tread() {
        SownPaths x = new SownPaths();
        due("tread(0,99)", x.tread(0, 99), 0);
        due("tread(0,1)", x.tread(0, 1), 99);
        due("tread(0,0)", x.tread(0, 0), 1);
        due("tread(35,5)", x.tread(35, 5), 0);
        due("where(0)", x.where(0), Parks.set(35));
        due("tread(0,100)", x.tread(0, 100), BEYOND);
        due("tread(0,-1)", x.tread(0, -1), BEYOND);
        for (int c : NO_CELLS) {
            due("tread(" + c + ",0)", x.tread(c, 0), BEYOND);
        }
        x.ground(1, 1);
        x.ground(2, 2);
        due("tread on water", x.tread(1, 3), STATE);
        due("tread on a wall, 0", x.tread(2, 0), STATE);
        due("BEYOND is asked first", x.tread(1, 100), BEYOND);
        due("where(0)", x.where(0), Parks.set(35));
    }

    private static void sow() {
        SownPaths x = new SownPaths();
        due("sow(-1,0,0)", x.sow(-1, 0, 0), BEYOND);
        due("sow(7,0,0)", x.sow(7, 0, 0), BEYOND);
        due("sow(0,0,-1)", x.sow(0, 0, -1), BEYOND);
        due("sow(0,0,4)", x.sow(0, 0, 4), BEYOND);
        for (int c : NO_CELLS) {
            due("sow(0," + c + ",0)", x.sow(0, c, 0), BEYOND);
        }
        due("no seed yet", x.count(1), 0);
        x.tread(3, 4);
        x.ground(8, 1);
        for (int k = 0; k < 7; k++) {
            due("sow(" + k + ",3,..)", x.sow(k, 3, k % 4), k);
            due("its kind", x.of(k, 0), k);
            due("its head", x.of(k, 1), 3);
            due("its heading", x.of(k, 2), k % 4);
            due("its age", x.of(k, 3), 0);
        }
        due("path doesn't change", x.cell(3, 1), 4);
        due("on water", x.sow(0, 8, 3), 7);
        due("a ninth", x.sow(0, 35, 3), FULL);
        due("BEYOND is asked first", x.sow(7, 35, 3), BEYOND);
        due("count(1)", x.count(1), 8);
    }

    private static void of() {
        SownPaths x = new SownPaths();
        int[] lives = {20, 4, 30, 15, 16, 20, 8};
        int[] treads = {12, 6, 32, 32, 16, 9, 6};
        for (int k = 0; k < 7; k++) {
            x.sow(k, k, 2);
        }
        for (int k = 0; k < 7; k++) {
            due("lives of " + k, x.of(k, 4), lives[k]);
            due("tread of " + k, x.of(k, 5), treads[k]);
            due("alive " + k, x.of(k, 7), 1);
            x.change(k, 3, lives[k] - 1);
            due("alive in its last season " + k, x.of(k, 7), 1);
            x.change(k, 3, lives[k]);
            due("not alive " + k, x.of(k, 7), 0);
            x.change(k, 3, 999);
            due("not alive at all " + k, x.of(k, 7), 0);
        }
        due("of(0,-1)", x.of(0, -1), BEYOND);
        due("of(0,8)", x.of(0, 8), BEYOND);
        due("of(7,0)", x.of(7, 0), BEYOND);
        due("of(-1,0)", x.of(-1, 0), BEYOND);
        due("of(max,0)", x.of(MAX, 0), BEYOND);
        due("of(min,0)", x.of(MIN, 0), BEYOND);
    }

    private static int turn(SownPaths x, int seed) {
        return x.of(seed, 6);
    }

    private static void turns() {
        SownPaths x = new SownPaths();
        for (int k = 0; k < 7; k++) {
            x.sow(k, 14, 3);
        }
        due("seed", turn(x, 0), 3);
        due("annual", turn(x, 1), 3);
        due("bulb without water", turn(x, 2), 3);
        due("runner, all on its cell, no water", turn(x, 3), 3);
        due("straggler in season 0", turn(x, 4), 3);
        due("twiner, by 4", turn(x, 5), 0);
        due("creeper of age 0", turn(x, 6), 3);
        x.change(6, 3, 1);
        due("creeper of age 1, by 4", turn(x, 6), 0);
        x.change(6, 3, 2);
        due("creeper of age 2", turn(x, 6), 3);
        x.ground(14, 1);
        due("bulb on the water itself", turn(x, 2), 3);
        x.ground(35, 1);
        due("bulb on the nearest water, with other water", turn(x, 2), 3);
        x.ground(14, 0);
        due("bulb toward 35: right before down", turn(x, 2), 1);
        x.ground(12, 1);
        x.ground(16, 1);
        due("bulb toward 12, of two as near the least", turn(x, 2), 3);
        x.ground(2, 1);
        due("bulb toward 2, least of three", turn(x, 2), 0);
        x.ground(26, 1);
        x.ground(2, 0);
        x.ground(12, 0);
        x.ground(16, 0);
        due("bulb toward 26", turn(x, 2), 2);
        due("runner without company goes as a bulb", turn(x, 3), 2);
        due("straggler without company too", turn(x, 4), 2);
        x.change(0, 1, 13);
        due("runner toward seed 0, left", turn(x, 3), 3);
        x.change(1, 1, 15);
        due("of two as near the least number", turn(x, 3), 3);
        x.change(0, 3, 20);
        due("not toward one that isn't alive", turn(x, 3), 1);
        x.change(5, 1, 8);
        x.change(1, 1, 18);
        due("the nearest", turn(x, 3), 0);
        due("straggler likewise, even season", turn(x, 4), 0);
        SownPaths y = new SownPaths();
        y.sow(4, 14, 0);
        y.sow(0, 35, 1);
        y.change(1, 3, 19);
        y.change(0, 3, 15);
        due("toward 35", turn(y, 0), 1);
        y.go(1);
        due("its last season went by: alone, up, season 1 is odd", y.of(0, 6), (y.of(0, 2) + 1) % 4);
        y.change(1, 3, 0);
        y.change(0, 1, 14);
        due("straggler in an odd season: one more", turn(y, 0), 2);
        SownPaths z = new SownPaths();
        z.sow(3, 14, 0);
        z.sow(3, 20, 0);
        due("a runner toward a runner", turn(z, 0), 2);
        due("and back", turn(z, 1), 0);
        z.change(0, 3, 15);
        due("one that is not alive turns all the same", turn(z, 0), 2);
        due("alone", turn(z, 1), 0);
        SownPaths v = new SownPaths();
        v.sow(2, 0, 0);
        v.ground(5, 1);
        due("along a row", turn(v, 0), 1);
        v.ground(30, 1);
        due("along a column? 5 is less", turn(v, 0), 1);
        v.ground(24, 1);
        due("24 is nearer", turn(v, 0), 2);
        SownPaths u = new SownPaths();
        u.ground(0, 1);
        u.sow(2, 6, 2);
        due("toward water on cell 0", turn(u, 0), 0);
        u.change(0, 1, 1);
        due("toward water on cell 0", turn(u, 0), 3);
        SownPaths w = new SownPaths();
        w.sow(3, 6, 2);
        w.sow(0, 0, 2);
        due("toward company on cell 0", turn(w, 0), 0);
    }

    private static void change() {
        SownPaths x = new SownPaths();
        due("no such seed", x.change(0, 0, 0), BEYOND);
        x.sow(3, 4, 1);
        due("kind", x.change(0, 0, 6), 3);
        due("kind again", x.change(0, 0, 0), 6);
        due("head", x.change(0, 1, 35), 4);
        due("head again", x.change(0, 1, 0), 35);
        due("heading", x.change(0, 2, 3), 1);
        due("heading again", x.change(0, 2, 0), 3);
        due("age", x.change(0, 3, 999), 0);
        due("age again", x.change(0, 3, 0), 999);
        int[] beyond = {7, 36, 4, 1000};
        for (int what = 0; what < 4; what++) {
            due("change(0," + what + ",-1)", x.change(0, what, -1), BEYOND);
            due("change(0," + what + "," + beyond[what] + ")", x.change(0, what, beyond[what]), BEYOND);
            due("unchanged " + what, x.of(0, what), 0);
        }
        due("change(0,-1,0)", x.change(0, -1, 0), BEYOND);
        due("change(0,4,0)", x.change(0, 4, 0), BEYOND);
        due("change(1,0,0)", x.change(1, 0, 0), BEYOND);
        due("change(-1,0,0)", x.change(-1, 0, 0), BEYOND);
        due("no path comes by it", x.where(0), 0);
    }

    private static void apart() {
        SownPaths x = new SownPaths();
        due("apart(0,35)", x.apart(0, 35), 10);
        due("apart(5,6)", x.apart(5, 6), 6);
        due("apart(14,14)", x.apart(14, 14), 0);
        due("apart(30,5)", x.apart(30, 5), 10);
        due("apart(3,1)", x.apart(3, 1), 2);
        for (int c : NO_CELLS) {
            due("apart(" + c + ",0)", x.apart(c, 0), BEYOND);
            due("apart(0," + c + ")", x.apart(0, c), BEYOND);
        }
    }

    private static void go() {
        SownPaths x = new SownPaths();
        due("go(0)", x.go(0), BEYOND);
        due("go(41)", x.go(41), BEYOND);
        due("go(-1)", x.go(-1), BEYOND);
        due("season", x.now(0), 0);
        x.sow(0, 14, 0);
        x.tread(14, 3);
        due("go(1)", x.go(1), 2);
        due("its head", x.of(0, 1), 8);
        due("its tread", x.cell(8, 1), 12);
        due("path fades", x.cell(14, 1), 2);
        due("its age", x.of(0, 3), 1);
        due("season", x.now(0), 1);
        due("go(1): to the edge", x.go(1), 3);
        due("go(1): it stays and turns", x.go(1), 2);
        due("head", x.of(0, 1), 2);
        due("heading", x.of(0, 2), 1);
        due("tread again", x.cell(2, 1), 12);
        due("go(40)", x.go(40), 0);
        due("it died of age", x.of(0, 3), 20);
        due("season", x.now(0), 43);

        SownPaths y = new SownPaths();
        y.sow(1, 14, 1);
        y.tread(15, 60);
        y.ground(16, 2);
        y.go(1);
        due("more path than its tread stays", y.cell(15, 1), 59);
        y.go(1);
        due("a wall: it stays", y.of(0, 1), 15);
        due("and turns down", y.of(0, 2), 2);
        y.ground(21, 1);
        y.go(1);
        due("water: it stays", y.of(0, 1), 15);
        due("and turns left", y.of(0, 2), 3);
        y.go(1);
        due("it goes on", y.of(0, 1), 14);
        due("heading", y.of(0, 2), 3);
        y.go(1);
        due("an annual lives four seasons", y.of(0, 1), 14);
        due("its age stays", y.of(0, 3), 4);

        SownPaths z = new SownPaths();
        z.sow(0, 14, 3);
        z.ground(14, 1);
        z.ground(13, 2);
        z.go(1);
        due("no path on water", z.where(0), 0);
        due("heading by 4", z.of(0, 2), 0);
        z.go(1);
        due("it leaves the water", z.where(0), Parks.set(8));

        SownPaths v = new SownPaths();
        v.sow(3, 0, 0);
        v.sow(0, 3, 2);
        v.go(1);
        due("seeds go by numbers: the runner first", v.of(0, 1), 1);
        due("then the seed", v.of(1, 1), 9);
        SownPaths w = new SownPaths();
        w.sow(0, 0, 2);
        w.sow(3, 2, 0);
        w.go(1);
        due("the runner sees where the seed is by then", w.of(1, 2), 2);
        SownPaths u = new SownPaths();
        u.sow(1, 0, 1);
        u.change(0, 3, 3);
        u.sow(3, 12, 1);
        u.go(1);
        due("one that died this season is no company", u.of(1, 2), 1);
        SownPaths t = new SownPaths();
        t.sow(6, 14, 0);
        t.go(2);
        due("a creeper turns when its age is odd", t.of(0, 1), 9);
        t.go(1);
        due("and goes on", t.of(0, 1), 10);
        SownPaths s = new SownPaths();
        s.sow(5, 14, 0);
        s.go(4);
        due("a twiner goes round", s.of(0, 1), 14);
        due("where it was", s.where(0), Parks.set(14, 15, 20, 21));
        for (int row = 0; row < 6; row++) {
            for (int column = 0; column < 6; column++) {
                int cell = 6 * row + column;
                steps(cell, 0, row > 0 ? cell - 6 : cell);
                steps(cell, 1, column < 5 ? cell + 1 : cell);
                steps(cell, 2, row < 5 ? cell + 6 : cell);
                steps(cell, 3, column > 0 ? cell - 1 : cell);
            }
        }
        SownPaths a = Parks.paths(3, 4);
        a.tread(4, 1);
        due("path of 1 is gone", a.go(1), 1);
        SownPaths old = new SownPaths();
        for (int i = 0; i < 500; i++) {
            old.go(40);
        }
        due("no STATE before 99999", old.now(0), 20000);
        // No run of 512 calls comes as far: a longer one shows what go() would say.
        for (int i = 500; i < 2499; i++) {
            old.go(40);
        }
        due("season", old.now(0), 99960);
        due("STATE", old.go(40), STATE);
        due("BEYOND is asked first", old.go(41), BEYOND);
        old.image();
        old.go(19);
        due("dogs: up to 99999", old.dogs(20), 0);
        due("season", old.now(0), 99999);
        due("undo", old.undo(), 99960);
        due("up to 99999", old.go(39), 0);
        due("STATE", old.go(1), STATE);
        due("dogs: STATE", old.dogs(1), STATE);
        due("dogs: BEYOND is asked first", old.dogs(21), BEYOND);
        due("season", old.now(0), 99999);
        due("STATE is counted", old.status(4), 3);
        due("what will be can be told all the same", old.ahead(0, 60), 0);
        old.sow(4, 14, 0);
        due("99999 at most: it stays odd, a straggler goes round", old.head(0, 2), 21);
        due("99999 at most: it stays odd, a straggler goes round", old.head(0, 4), 14);
    }

    /** A seed's one step from a cell by a heading on grass alone. */
    private static void steps(int cell, int heading, int want) {
        SownPaths x = new SownPaths();
        x.sow(0, cell, heading);
        due("cell " + cell + ", heading " + heading, x.go(1), 1);
        due("cell " + cell + ", heading " + heading, x.of(0, 1), want);
        due("cell " + cell + ", heading " + heading, x.of(0, 2), want == cell ? (heading + 1) % 4 : heading);
        due("cell " + cell + ", heading " + heading, x.where(0), Parks.set(want));
    }

    private static void now() {
        SownPaths x = Parks.paths(1, 6, 7, 8, 13, 30);
        x.tread(30, 99);
        x.sow(1, 3, 3);
        x.sow(0, 4, 3);
        x.sow(2, 4, 3);
        x.change(1, 3, 20);
        due("now(0)", x.now(0), 0);
        due("now(1)", x.now(1), 6);
        due("now(2)", x.now(2), 5);
        due("now(3)", x.now(3), 5 * 50 + 99);
        due("now(4)", x.now(4), 1);
        x.go(40);
        due("now(0)", x.now(0), 40);
        due("now(2)", x.now(2), 0);
        due("now(-1)", x.now(-1), BEYOND);
        due("now(5)", x.now(5), BEYOND);
    }

    private static void where() {
        SownPaths x = Parks.paths(0, 1, 2, 7, 35);
        x.ground(34, 1);
        x.ground(3, 1);
        x.ground(33, 2);
        due("where(0)", x.where(0), Parks.set(0, 1, 2, 7, 35));
        due("where(1)", x.where(1), Parks.set(3, 34));
        due("where(2)", x.where(2), Parks.set(33));
        due("where(3)", x.where(3), Parks.set(1));
        x.tread(0, 0);
        due("two neighbours are no bench", x.where(3), 0);
        x.tread(13, 1);
        x.tread(8, 1);
        x.tread(6, 1);
        due("four are", x.where(3), Parks.set(7));
        x.tread(7, 0);
        due("a cell without path is none", x.where(3), 0);
        due("where(-1)", x.where(-1), BEYOND);
        due("where(4)", x.where(4), BEYOND);
    }

    private static void way() {
        SownPaths x = Parks.paths(0, 1, 2, 8, 14, 13, 12, 5, 6);
        due("way(0,12)", x.way(0, 12), 2);
        due("way(2,12)", x.way(2, 12), 4);
        due("way(12,2)", x.way(12, 2), 4);
        due("way(0,0)", x.way(0, 0), 0);
        due("not round the edge", x.way(5, 6), NONE);
        due("one without path", x.way(0, 7), NONE);
        due("both without path", x.way(7, 7), NONE);
        for (int c : NO_CELLS) {
            due("way(" + c + ",0)", x.way(c, 0), BEYOND);
            due("way(0," + c + ")", x.way(0, c), BEYOND);
        }
        SownPaths snake = new SownPaths();
        for (int row = 0; row < 6; row += 2) {
            for (int column = 0; column < 6; column++) {
                snake.tread(6 * row + column, 9);
            }
        }
        snake.tread(11, 9);
        snake.tread(18, 9);
        due("a long way", snake.way(0, 29), 5 + 2 + 5 + 2 + 5);
    }

    private static void joined() {
        SownPaths x = Parks.paths(0, 1, 7, 35, 29, 5, 6);
        due("joined(0)", x.joined(0), Parks.set(0, 1, 7, 6));
        due("joined(35)", x.joined(35), Parks.set(29, 35));
        due("joined(5)", x.joined(5), Parks.set(5));
        due("joined(2)", x.joined(2), 0);
        for (int c : NO_CELLS) {
            due("joined(" + c + ")", x.joined(c), BEYOND);
        }
    }

    private static void groups() {
        due("none", new SownPaths().groups(), 0);
        due("one", Parks.paths(0).groups(), 1);
        due("three", Parks.paths(0, 1, 7, 35, 29, 5).groups(), 3);
        due("corners are no neighbours", Parks.paths(0, 7, 14, 21, 28, 35).groups(), 6);
        SownPaths board = new SownPaths();
        for (int c = 0; c < 36; c++) {
            if ((c / 6 + c % 6) % 2 == 0) {
                board.tread(c, 1);
            }
        }
        due("a chess board", board.groups(), 18);
    }

    private static void partsAndBridges() {
        SownPaths x = Parks.paths(0, 1, 2, 3, 8, 9, 15, 21, 35);
        due("parts(0,21)", x.parts(0, 21), 1);
        due("bridges(0,21)", x.bridges(0, 21), 4);
        due("parts(2,21)", x.parts(2, 21), 9);
        due("bridges(2,21)", x.bridges(2, 21), 2);
        due("parts(21,2)", x.parts(21, 2), 9);
        due("round: none", x.parts(2, 9), NONE);
        due("round: none", x.bridges(2, 9), 0);
        due("neighbours", x.parts(0, 1), NONE);
        due("neighbours", x.bridges(0, 1), 0);
        due("itself", x.parts(0, 0), NONE);
        due("itself", x.bridges(0, 0), 0);
        due("the first cell", Parks.paths(1, 0, 6).parts(1, 6), 0);
        due("the first cell", Parks.paths(1, 0, 6).bridges(1, 6), 1);
        due("the last cell", Parks.paths(34, 35, 29).parts(34, 29), 35);
        due("not joined", x.parts(0, 35), NONE);
        due("not joined", x.bridges(0, 35), 0);
        due("nothing changed", x.count(3), 9);
        for (int c : NO_CELLS) {
            due("parts(" + c + ",0)", x.parts(c, 0), BEYOND);
            due("parts(0," + c + ")", x.parts(0, c), BEYOND);
            due("bridges(" + c + ",0)", x.bridges(c, 0), BEYOND);
            due("bridges(0," + c + ")", x.bridges(0, c), BEYOND);
        }
    }

    private static void mend() {
        SownPaths x = new SownPaths();
        due("mend(0,0)", x.mend(0, 0), 1);
        due("mend(0,35)", x.mend(0, 35), 11);
        due("mend(5,6)", x.mend(5, 6), 7);
        x.tread(0, 1);
        due("mend(0,0)", x.mend(0, 0), 0);
        due("mend(0,2)", x.mend(0, 2), 2);
        due("mend(2,0)", x.mend(2, 0), 2);
        x.tread(2, 1);
        due("mend(0,2)", x.mend(0, 2), 1);
        due("mend(1,1)", x.mend(1, 1), 1);
        x.ground(1, 2);
        due("round a wall", x.mend(0, 2), 3);
        x.ground(7, 1);
        due("round water", x.mend(0, 2), 5);
        x.ground(6, 1);
        due("shut in", x.mend(0, 2), NONE);
        due("a wall", x.mend(1, 2), NONE);
        due("water", x.mend(2, 7), NONE);
        due("water and itself", x.mend(7, 7), NONE);
        SownPaths y = Parks.paths(12, 18, 24, 25, 26, 27, 28, 22, 16);
        y.ground(14, 2);
        due("a long path is cheaper than a short cut", y.mend(12, 16), 0);
        due("from beyond its ends", y.mend(6, 10), 2);
        for (int c : NO_CELLS) {
            due("mend(" + c + ",0)", y.mend(c, 0), BEYOND);
            due("mend(0," + c + ")", y.mend(0, c), BEYOND);
        }
        due("nothing changed", y.count(3), 9);
    }

    private static void ahead() {
        SownPaths x = new SownPaths();
        x.sow(0, 14, 0);
        x.tread(0, 99);
        due("ahead(8,0)", x.ahead(8, 0), 0);
        due("ahead(8,1)", x.ahead(8, 1), 12);
        due("ahead(8,5)", x.ahead(8, 5), 8);
        due("ahead(0,60)", x.ahead(0, 60), 39);
        due("nothing changed", x.now(0), 0);
        due("nothing changed", x.where(0), Parks.set(0));
        due("ahead(0,61)", x.ahead(0, 61), BEYOND);
        due("ahead(0,-1)", x.ahead(0, -1), BEYOND);
        for (int c : NO_CELLS) {
            due("ahead(" + c + ",0)", x.ahead(c, 0), BEYOND);
        }
    }

    private static void head() {
        SownPaths x = new SownPaths();
        due("head(0,0)", x.head(0, 0), BEYOND);
        x.sow(1, 30, 0);
        due("head(0,0)", x.head(0, 0), 30);
        due("head(0,1)", x.head(0, 1), 24);
        due("head(0,4)", x.head(0, 4), 6);
        due("head(0,60)", x.head(0, 60), 6);
        due("nothing changed", x.of(0, 1), 30);
        due("head(0,61)", x.head(0, 61), BEYOND);
        due("head(0,-1)", x.head(0, -1), BEYOND);
        due("head(1,0)", x.head(1, 0), BEYOND);
        due("head(-1,0)", x.head(-1, 0), BEYOND);
    }

    private static void when() {
        SownPaths x = new SownPaths();
        x.sow(0, 12, 1);
        due("when(13,13)", x.when(13, 13), 1);
        due("when(13,15)", x.when(13, 15), 3);
        due("when(15,13)", x.when(15, 13), 3);
        due("when(13,12): never", x.when(13, 12), NONE);
        x.tread(12, 4);
        due("when(12,15)", x.when(12, 15), 3);
        x.tread(12, 3);
        due("it fades before", x.when(12, 15), NONE);
        due("when(12,12)", x.when(12, 12), 0);
        due("nothing changed", x.now(0), 0);
        for (int c : NO_CELLS) {
            due("when(" + c + ",0)", x.when(c, 0), BEYOND);
            due("when(0," + c + ")", x.when(0, c), BEYOND);
        }
    }

    private static void bare() {
        SownPaths x = new SownPaths();
        due("bare()", x.bare(), 0);
        x.tread(3, 60);
        due("bare() at the last", x.bare(), 60);
        x.tread(3, 61);
        due("bare() beyond it", x.bare(), NONE);
        x.tread(3, 5);
        due("bare()", x.bare(), 5);
        x.sow(1, 3, 1);
        due("with an annual: its last tread, 6 in season 4", x.bare(), 10);
        due("nothing changed", x.now(0), 0);
        SownPaths y = new SownPaths();
        y.sow(1, 3, 1);
        due("bare now, though a seed will tread", y.bare(), 0);
    }

    private static void there() {
        SownPaths x = new SownPaths();
        x.sow(1, 12, 1);
        x.tread(35, 60);
        due("there(0)", x.there(0), Parks.set(35));
        due("there(2)", x.there(2), Parks.set(13, 14, 35));
        due("there(7)", x.there(7), Parks.set(14, 15, 16, 35));
        due("there(59)", x.there(59), Parks.set(35));
        due("there(60)", x.there(60), 0);
        due("there(61)", x.there(61), BEYOND);
        due("there(-1)", x.there(-1), BEYOND);
        due("nothing changed", x.where(0), Parks.set(35));
    }

    private static void kindFor() {
        SownPaths x = new SownPaths();
        due("no seed", x.kindFor(0, 0), BEYOND);
        x.sow(5, 12, 1);
        due("all alike: the least", x.kindFor(0, 0), 0);
        due("kindFor(0,4): the least of those that go on", x.kindFor(0, 4), 0);
        due("kindFor(0,60): none has path", x.kindFor(0, 60), 2);
        due("its kind stays", x.of(0, 0), 5);
        x.ground(12, 1);
        x.change(0, 3, 4);
        due("an annual would be dead", x.kindFor(0, 1), 0);
        x.change(0, 3, 25);
        due("a bulb would live", x.kindFor(0, 1), 2);
        due("kindFor(0,61)", x.kindFor(0, 61), BEYOND);
        due("kindFor(0,-1)", x.kindFor(0, -1), BEYOND);
        due("kindFor(1,0)", x.kindFor(1, 0), BEYOND);
        due("kindFor(-1,0)", x.kindFor(-1, 0), BEYOND);
    }

    private static void headingFor() {
        SownPaths x = new SownPaths();
        due("no seed", x.headingFor(0, 0), BEYOND);
        x.sow(0, 12, 3);
        due("all alike: the least", x.headingFor(0, 0), 0);
        due("headingFor(0,4): right", x.headingFor(0, 4), 1);
        due("its heading stays", x.of(0, 2), 3);
        x.change(0, 1, 3);
        due("headingFor(0,4): down", x.headingFor(0, 4), 2);
        x.change(0, 1, 17);
        due("headingFor(0,5): left", x.headingFor(0, 5), 3);
        due("headingFor(0,61)", x.headingFor(0, 61), BEYOND);
        due("headingFor(0,-1)", x.headingFor(0, -1), BEYOND);
        due("headingFor(1,0)", x.headingFor(1, 0), BEYOND);
        due("headingFor(-1,0)", x.headingFor(-1, 0), BEYOND);
    }

    private static void sowFor() {
        SownPaths x = new SownPaths();
        due("now: nothing", x.sowFor(0, 20, 20, 0), NONE);
        x.tread(20, 9);
        due("joined already: the least cell", x.sowFor(0, 20, 20, 0), 0);
        x.tread(20, 0);
        x.ground(0, 1);
        x.ground(1, 2);
        x.tread(20, 9);
        due("the least of grass", x.sowFor(0, 20, 20, 0), 2);
        x.tread(20, 0);
        due("it goes up from 26", x.sowFor(0, 20, 14, 2), 26);
        due("a twiner: right, then down", x.sowFor(5, 20, 14, 2), 13);
        due("a bulb's path lasts to the last season that is allowed", x.sowFor(2, 20, 14, 30), 26);
        due("an annual's does not", x.sowFor(1, 20, 14, 30), NONE);
        due("an annual treads four times", x.sowFor(1, 20, 2, 4), 26);
        due("and not five times", x.sowFor(1, 26, 2, 5), NONE);
        due("n 31", x.sowFor(0, 0, 0, 31), BEYOND);
        due("n -1", x.sowFor(0, 0, 0, -1), BEYOND);
        due("kind 7", x.sowFor(7, 0, 0, 0), BEYOND);
        due("kind -1", x.sowFor(-1, 0, 0, 0), BEYOND);
        for (int c : NO_CELLS) {
            due("sowFor(0," + c + ",0,0)", x.sowFor(0, c, 0, 0), BEYOND);
            due("sowFor(0,0," + c + ",0)", x.sowFor(0, 0, c, 0), BEYOND);
        }
        due("nothing changed", x.count(1), 0);
        for (int i = 0; i < 7; i++) {
            x.sow(0, 35, 3);
        }
        due("room for one", x.sowFor(0, 20, 14, 2), 26);
        x.sow(0, 35, 3);
        due("no room", x.sowFor(0, 20, 14, 2), FULL);
        due("BEYOND is asked first", x.sowFor(7, 20, 14, 2), BEYOND);
    }

    private static void without() {
        SownPaths x = new SownPaths();
        due("no seeds", x.without(0), NONE);
        due("BEYOND is asked first", x.without(61), BEYOND);
        x.sow(1, 0, 1);
        x.sow(0, 12, 1);
        x.sow(1, 30, 1);
        due("all alike", x.without(0), 0);
        due("without(1): all alike", x.without(1), 0);
        due("without(12): the seed", x.without(12), 1);
        due("without(60)", x.without(60), 0);
        due("without(-1)", x.without(-1), BEYOND);
        due("nothing changed", x.of(0, 3) + x.of(1, 3) + x.of(2, 3), 0);
        SownPaths all = new SownPaths();
        for (int c = 0; c < 36; c++) {
            all.tread(c, 99);
        }
        all.sow(0, 0, 0);
        due("all cells have path all the same", all.without(3), 0);
    }

    private static void weed() {
        SownPaths x = new SownPaths();
        due("no path", x.weed(), NONE);
        x.tread(20, 1);
        due("the only one", x.weed(), 20);
        due("nothing changed", x.cell(20, 1), 1);
        SownPaths y = Parks.paths(0, 1, 2, 3, 4, 9);
        due("three groups without 3", y.weed(), 3);
        due("the first cell", Parks.paths(1, 0, 6, 35).weed(), 0);
        due("the last cell", Parks.paths(34, 35, 29, 0).weed(), 35);
        SownPaths z = Parks.paths(7, 8, 13, 14);
        due("a square: the least", z.weed(), 7);
        SownPaths v = Parks.paths(0, 2);
        due("two alone: the least", v.weed(), 0);
    }

    private static void fits() {
        SownPaths x = new SownPaths();
        due("no such sheet", x.fits(-1, 0, 0), BEYOND);
        due("no such sheet", x.fits(4, 0, 0), BEYOND);
        due("missing, before no such seed", x.fits(0, 0, 36), MISSING);
        Parks.row(x, 0, 8);
        due("no such seed", x.fits(0, 0, 0), BEYOND);
        x.sow(0, 12, 1);
        due("no such seed", x.fits(0, 1, 0), BEYOND);
        due("no such seed", x.fits(0, -1, 0), BEYOND);
        for (int c : NO_CELLS) {
            due("fits(0,0," + c + ")", x.fits(0, 0, c), BEYOND);
        }
        due("no numbers: all fit", x.fits(0, 0, 13), 127);
        Parks.row(x, 0, 8, 0, 12);
        due("only a seed has a tread of 12", x.fits(0, 0, 13), 1);
        Parks.row(x, 0, 8, 0, 6);
        due("annual, creeper", x.fits(0, 0, 13), 2 + 64);
        Parks.row(x, 0, 8, 0, 32);
        due("bulb, runner", x.fits(0, 0, 13), 4 + 8);
        Parks.row(x, 0, 8, -1, 16);
        due("straggler", x.fits(0, 0, 13), 16);
        Parks.row(x, 0, 16, -1, -1, 5);
        due("annual, creeper, one season on", x.fits(0, 0, 13), 2 + 64);
        Parks.row(x, 0, 32, 0, 0);
        due("a twiner goes down", x.fits(0, 0, 13), 32);
        Parks.row(x, 0, 8, 1, 12);
        due("now it isn't so", x.fits(0, 0, 13), 0);
        Parks.row(x, 0, 8, -1, -2);
        due("-2 is not any", x.fits(0, 0, 13), 0);
        Parks.row(x, 0, 8, 255, 255);
        due("of 8 bits 255 is -1", x.fits(0, 0, 13), 127);
        Parks.row(x, 0, 16, 255, 255);
        due("of 16 bits it isn't", x.fits(0, 0, 13), 0);
        due("nothing changed", x.of(0, 0) + x.now(0), 0);
        x.change(0, 3, 999);
        x.tread(0, 99);
        x.sheet(0, 8, 40);
        for (int i = 0; i < 39; i++) {
            x.write(0, i, -1);
        }
        x.write(0, 39, 60);
        due("behind 39 seasons", x.fits(0, 0, 0), 127);
        x.write(0, 39, 61);
        due("behind 39 seasons it isn't so", x.fits(0, 0, 0), 0);
    }

    private static void headings() {
        SownPaths x = new SownPaths();
        due("no such sheet", x.headings(-1, 0, 0), BEYOND);
        due("no such sheet", x.headings(4, 0, 0), BEYOND);
        due("missing, before no such seed", x.headings(3, 0, 36), MISSING);
        Parks.row(x, 3, 8);
        due("no such seed", x.headings(3, 0, 0), BEYOND);
        x.sow(0, 12, 1);
        due("no such seed", x.headings(3, 1, 0), BEYOND);
        due("no such seed", x.headings(3, -1, 0), BEYOND);
        for (int c : NO_CELLS) {
            due("headings(3,0," + c + ")", x.headings(3, 0, c), BEYOND);
        }
        due("no numbers", x.headings(3, 0, 13), 4);
        Parks.row(x, 3, 8, 0, 12);
        due("right alone", x.headings(3, 0, 13), 1);
        Parks.row(x, 3, 8, 0, 0);
        due("three others", x.headings(3, 0, 13), 3);
        Parks.row(x, 3, 8, 1);
        due("none", x.headings(3, 0, 13), 0);
        Parks.row(x, 3, 8, -1, -1);
        due("any", x.headings(3, 0, 13), 4);
        x.change(0, 1, 0);
        Parks.row(x, 3, 8, 0, 12);
        due("in the corner it stays with two", x.headings(3, 0, 0), 2);
        due("nothing changed", x.of(0, 2), 1);
    }

    private static void dogs() {
        SownPaths x = new SownPaths();
        due("dogs(0)", x.dogs(0), BEYOND);
        due("dogs(21)", x.dogs(21), BEYOND);
        due("dogs(-1)", x.dogs(-1), BEYOND);
        due("no draw was made", x.count(6), 1);
        for (int c = 0; c < 36; c++) {
            x.tread(c, 99);
        }
        int z = 1 * 1103515245 + 12345;
        int cell = (z >>> 8) % 36;
        due("dogs(1)", x.dogs(1), 35);
        due("z", x.count(6), z);
        due("the cell", x.cell(cell, 1), 0);
        due("the others faded", x.now(3), 35 * 98);
        due("a season went by", x.now(0), 1);
        z = z * 1103515245 + 12345;
        z = z * 1103515245 + 12345;
        x.dogs(2);
        due("two more draws", x.count(6), z);
        due("two more seasons", x.now(0), 3);
        due("dogs(20)", x.dogs(20) > 0 ? 1 : 0, 1);
        due("seasons", x.now(0), 23);
        SownPaths y = new SownPaths();
        // z becomes less than 0; what it gives does not.
        y.seed(2);
        int next = 2 * 1103515245 + 12345;
        y.tread((next >>> 8) % 36, 50);
        due("a draw", y.dogs(1), 0);
        SownPaths v = new SownPaths();
        v.seed(0);
        v.sow(0, (12345 >>> 8) % 36 + 6, 0);
        v.tread((12345 >>> 8) % 36, 50);
        due("first the dog, then the season", v.dogs(1), 1);
        due("the new tread", v.cell((12345 >>> 8) % 36, 1), 12);
        SownPaths w = new SownPaths();
        w.ground((12345 >>> 8) % 36, 1);
        w.seed(0);
        due("a draw of water", w.dogs(1), 0);
        due("leaves it water", w.where(1), Parks.set((12345 >>> 8) % 36));
    }

    private static void odds() {
        SownPaths x = new SownPaths();
        due("no path, above", x.odds(11, 0), 1);
        due("no path, below", x.odds(11, 1), 1);
        x.tread(0, 1);
        due("35 of 36, above", x.odds(1, 0), 35);
        due("35 of 36, below", x.odds(1, 1), 36);
        due("n 0, above", x.odds(0, 0), 1);
        due("n 0, below", x.odds(0, 1), 1);
        due("n 11, above", x.odds(11, 0), 96549157373046875L);
        due("n 11, below", x.odds(11, 1), 131621703842267136L);
        x.tread(1, 1);
        due("lowest terms, above", x.odds(2, 0), 17 * 17);
        due("lowest terms, below", x.odds(2, 1), 18 * 18);
        due("odds(12,0)", x.odds(12, 0), BEYOND);
        due("odds(-1,0)", x.odds(-1, 0), BEYOND);
        due("odds(0,2)", x.odds(0, 2), BEYOND);
        due("odds(0,-1)", x.odds(0, -1), BEYOND);
        for (int c = 0; c < 36; c++) {
            x.tread(c, 1);
        }
        due("all path, above", x.odds(3, 0), 0);
        due("all path, below", x.odds(3, 1), 1);
        due("all path, n 0, above", x.odds(0, 0), 1);
        due("all path, n 0, below", x.odds(0, 1), 1);
        due("nothing was drawn", x.count(6), 1);
    }

    private static void seed() {
        SownPaths x = new SownPaths();
        due("seed(5)", x.seed(5), 1);
        due("seed(min)", x.seed(MIN), 5);
        due("seed(BEYOND)", x.seed(BEYOND), MIN);
        due("count(6)", x.count(6), BEYOND);
        due("seed(0)", x.seed(0), BEYOND);
        due("no finding", x.status(-1), 0);
    }

    private static void feed() {
        SownPaths x = new SownPaths();
        due("feed(0,0)", x.feed(0, 0), BEYOND);
        due("feed(0,5)", x.feed(0, 5), BEYOND);
        due("feed(0,-1)", x.feed(0, -1), BEYOND);
        due("feed(..,4)", x.feed(0x73656564, 4), 4);
        due("feed(..,2), the lowest two", x.feed(0x7a7a2037, 2), 6);
        due("text()", x.text(), 1);
        due("of(0,1)", x.of(0, 1), 7);
        for (int i = 1; i <= 29; i++) {
            due("feed", x.feed(0x3b3b3b3b, 4), 4 * i);
        }
        due("119", x.feed(0x3b3b3b, 3), 119);
        due("two too many", x.feed(0, 2), FULL);
        due("BEYOND is asked first", x.feed(0, 5), BEYOND);
        due("still 119", x.count(5), 119);
        due("the last", x.feed(-1, 1), 120);
        due("full", x.feed(0, 1), FULL);
    }

    private static void wipe() {
        SownPaths x = new SownPaths();
        Parks.feed(x, "seed 7");
        due("wipe()", x.wipe(), 6);
        due("wipe()", x.wipe(), 0);
        due("count(5)", x.count(5), 0);
        Parks.feed(x, "water 3");
        due("what was wiped is gone", x.text(), 1);
        due("no seed", x.count(1), 0);
    }

    private static void text() {
        SownPaths x = new SownPaths();
        due("all words", Parks.read(x, "seed 0;annual 1 up;bulb 2 right;runner 3 down aged 0;straggler 4 left aged 999;"
                + "twiner 5 aged 3;creeper 6"), 7);
        int[][] dues = {{0, 0, 0, 0}, {1, 1, 0, 0}, {2, 2, 1, 0}, {3, 3, 2, 0}, {4, 4, 3, 999}, {5, 5, 0, 3},
            {6, 6, 0, 0}};
        for (int s = 0; s < 7; s++) {
            for (int what = 0; what < 4; what++) {
                due("of(" + s + "," + what + ")", x.of(s, what), dues[s][what]);
            }
        }
        due("the tape is empty", x.count(5), 0);
        due("the last cell", Parks.read(x, "path 35 4"), 1);
        due("path of 35", x.cell(35, 1), 4);
        due("grounds", Parks.read(x, "water 35;wall 34;path 0 99;path 1 0;path 2 5;water 2;grass 2"), 7);
        due("water", x.where(1), Parks.set(35));
        due("wall", x.where(2), Parks.set(34));
        due("path", x.where(0), Parks.set(0));
        due("no blanks", Parks.read(x, "seed35down;water7;path008 0001"), 3);
        due("seed 7", x.of(7, 1) + x.of(7, 2), 37);
        due("blanks", Parks.read(x, "   path   9    3   ;   grass  7 "), 2);
        due("path of 9", x.cell(9, 1), 3);
        due("item by item", Parks.read(x, "wall 9;grass 9;path 9 4"), 3);
        due("path of 9", x.cell(9, 1), 4);
        due("many zeros", Parks.read(x, "path 00000000000000000000000000009 00000000000000000000000000007"), 1);
        due("path of 9", x.cell(9, 1), 7);
        due("grass leaves path", Parks.read(x, "grass 9"), 1);
        due("path of 9", x.cell(9, 1), 7);
        SownPaths full = new SownPaths();
        StringBuilder longest = new StringBuilder("wall 1");
        for (int i = 0; i < 14; i++) {
            longest.append(";wall ").append(10 + i);
        }
        longest.append(" ");
        due("a text of " + longest.length(), Parks.read(full, longest.toString()), 15);
        SownPaths z = new SownPaths();
        due("no finding", Parks.read(z, "seed"), -5);
        due("no finding", z.status(-1), 0);
    }

    private static void fault(String text, int place) {
        SownPaths x = new SownPaths();
        x.sow(0, 3, 0);
        x.ground(5, 1);
        x.tread(0, 7);
        due("\"" + text + "\"", Parks.read(x, text), -1 - place);
        due("\"" + text + "\" empties the tape", x.count(5), 0);
        due("\"" + text + "\" changes nothing", x.count(1) * 1000 + x.now(3), 1007);
        due("\"" + text + "\" changes no ground", x.where(1) | x.where(2), Parks.set(5));
    }

    private static void textFaults() {
        fault("", 0);
        fault("   ", 3);
        fault("tree 1", 0);
        fault("  tree 1", 2);
        fault("seeds 1", 0);
        fault("seedz 1", 0);
        fault("xeed 1", 0);
        fault("see 1", 0);
        fault("Seed 1", 0);
        fault("7", 0);
        fault(";", 0);
        fault("up 1", 0);
        fault("aged 1", 0);
        fault("seed", 4);
        fault("seed  ", 6);
        fault("seed up", 5);
        fault("seed ;", 5);
        fault("seed 36", 5);
        fault("seed 1000", 5);
        fault("seed 99999999999999999999", 5);
        fault("seed 4294967297", 5);
        fault("seed 1 2", 7);
        fault("seed 1 aged", 11);
        fault("seed 1 aged x", 12);
        fault("seed 1 aged 1000", 12);
        fault("seed 1 aged 1 up", 14);
        fault("seed 1 aged 1 aged 1", 14);
        fault("seed 1 up down", 10);
        fault("seed 1 upp", 7);
        fault("seed 1 seed 2", 7);
        fault("seed 1;", 7);
        fault("seed 1; ", 8);
        fault("seed 1;;", 7);
        fault("seed 1;water", 12);
        fault("seed -1", 5);
        fault("seed\t1", 4);
        fault("seed\n1", 4);
        fault("seed 1.", 6);
        fault("seed 1 \u00e9", 7);
        fault("seed 1\u0000", 6);
        fault("seed1{", 5);
        fault("seed1`", 5);
        fault("seed1/", 5);
        fault("seed1:", 5);
        fault("water 36", 6);
        fault("wall 1 1", 7);
        fault("grass 1 up", 8);
        fault("water 2;seed 3;path 3 100", 22);
        fault("path", 4);
        fault("path ;", 5);
        fault("water", 5);
        fault("wall ;", 5);
        fault("path 36 1", 5);
        fault("path 1", 6);
        fault("path 1 ;", 7);
        fault("path 5 1", 5);
        fault("path 5 100", 5);
        fault("water 1;path 1 5", 13);
        fault("path 1 1 1", 9);
        fault("path 1 1;wall 7;path 7 0", 21);
        SownPaths x = new SownPaths();
        for (int i = 0; i < 7; i++) {
            x.sow(0, 0, 0);
        }
        due("the word of a ninth", Parks.read(x, "annual 3; bulb 77"), -1 - 10);
        due("none came", x.count(1), 7);
        due("an eighth", Parks.read(x, "annual 3"), 1);
        due("a ninth", Parks.read(x, "  wall 3;twiner 3"), -1 - 9);
        due("a ninth, alone", Parks.read(x, " twiner"), -1 - 1);
        due("no wall came", x.where(2), 0);
    }

    private static void hold() {
        SownPaths x = new SownPaths();
        due("no such seed", x.hold(0, 0), BEYOND);
        due("nothing", x.hold(0, -1), 1);
        x.sow(2, 3, 0);
        due("hold(0,0)", x.hold(0, 0), 1);
        due("hold(9,0)", x.hold(9, 0), 1);
        due("hold(10,0)", x.hold(10, 0), BEYOND);
        due("hold(-1,0)", x.hold(-1, 0), BEYOND);
        due("hold(0,1)", x.hold(0, 1), BEYOND);
        due("hold(0,-2)", x.hold(0, -2), BEYOND);
        due("count(7)", x.count(7), 2);
        due("hold(9,-1)", x.hold(9, -1), 1);
        due("count(7)", x.count(7), 1);
        due("as(0,2)", x.as(0, 2), 0);
    }

    private static void as() {
        SownPaths x = new SownPaths();
        String[] under = {"0", "01", "02", "023", "0234", "05", "016"};
        for (int k = 0; k < 7; k++) {
            x.sow(k, 0, 0);
            x.hold(k + 2, k);
            for (int other = 0; other < 7; other++) {
                boolean is = under[k].indexOf('0' + other) >= 0;
                due("a " + k + " as a " + other, x.as(k + 2, other), is ? k : KIND);
            }
        }
        due("as(0,0)", x.as(0, 0), MISSING);
        due("BEYOND is asked first", x.as(0, 7), BEYOND);
        due("as(2,-1)", x.as(2, -1), BEYOND);
        due("as(10,0)", x.as(10, 0), BEYOND);
        due("as(-1,0)", x.as(-1, 0), BEYOND);
        x.change(0, 0, 4);
        due("its kind by now", x.as(2, 3), 0);
    }

    private static void sheet() {
        SownPaths x = new SownPaths();
        due("sheet(0,8,40)", x.sheet(0, 8, 40), 40);
        due("sheet(1,16,0)", x.sheet(1, 16, 0), 0);
        due("it is there", x.judge(1), 0);
        due("sheet(3,32,1)", x.sheet(3, 32, 1), 1);
        due("no such sheet", x.sheet(-1, 8, 1), BEYOND);
        due("no such sheet", x.sheet(4, 8, 1), BEYOND);
        due("bits 1", x.sheet(0, 1, 1), BEYOND);
        due("bits 24", x.sheet(0, 24, 1), BEYOND);
        due("bits 64", x.sheet(0, 64, 1), BEYOND);
        due("bits -8", x.sheet(0, -8, 1), BEYOND);
        due("no such sheet is asked first", x.sheet(4, 8, -1), BEYOND);
        due("other bits are asked first", x.sheet(0, 9, -1), BEYOND);
        due("n -1", x.sheet(0, 8, -1), SIZE);
        due("n min", x.sheet(0, 8, MIN), SIZE);
        due("n -1, bits 0", x.sheet(0, 0, -1), SIZE);
        due("n 41", x.sheet(0, 8, 41), BEYOND);
        due("n 41, bits 0", x.sheet(0, 0, 41), BEYOND);
        due("it stays", x.write(0, 39, 5), 1);
        due("bits 0", x.sheet(0, 0, 40), 0);
        due("missing", x.write(0, 0, 0), MISSING);
        x.sheet(0, 8, 3);
        x.write(0, 0, 7);
        x.sheet(0, 8, 3);
        holds("made anew, all 0", x, 0, 0, 0);
    }

    private static void write() {
        SownPaths x = new SownPaths();
        due("no such sheet", x.write(-1, 0, 0), BEYOND);
        due("no such sheet", x.write(4, 0, 0), BEYOND);
        due("missing, before no such number", x.write(0, 99, 0), MISSING);
        x.sheet(0, 8, 2);
        due("write(0,0,1)", x.write(0, 0, 1), 1);
        due("write(0,1,1)", x.write(0, 1, 1), 1);
        due("write(0,2,1)", x.write(0, 2, 1), BEYOND);
        due("write(0,-1,1)", x.write(0, -1, 1), BEYOND);
        x.sow(0, 35, 0);
        int[][] sorts = {{8, 256, 0}, {8, 255, -1}, {8, 128, -128}, {8, 127 + 256, 127}, {16, 65536 + 3, 3},
            {16, 65535, -1}, {16, 256, 256}, {32, 65536 + 3, 65539}, {32, -1, -1}, {32, 3, 3}};
        for (int[] sort : sorts) {
            Parks.row(x, 1, sort[0], sort[1]);
            int v = sort[2];
            x.tread(0, v >= 0 && v <= 99 ? v : 42);
            int want = v == -1 || v >= 0 && v <= 99 ? 127 : 0;
            due("of " + sort[0] + " bits " + sort[1], x.fits(1, 0, 0), want);
        }
        x.sheet(1, 8, 0);
        due("no numbers", x.write(1, 0, 0), BEYOND);
    }

    private static void copy() {
        SownPaths x = new SownPaths();
        due("no such sheet", x.copy(-1, 0, 0, 0, 0), BEYOND);
        due("no such sheet", x.copy(4, 0, 0, 0, 0), BEYOND);
        due("no such sheet, either", x.copy(0, 0, 4, 0, 0), BEYOND);
        due("no such sheet, either", x.copy(0, 0, -1, 0, 0), BEYOND);
        due("missing", x.copy(0, 0, 1, 0, -1), MISSING);
        Parks.row(x, 0, 8, 1, 2, 3, 4, 5);
        due("missing, one", x.copy(0, 0, 1, 0, -1), MISSING);
        due("missing, one", x.copy(1, 0, 0, 0, -1), MISSING);
        due("no such sheet before missing", x.copy(1, 0, 4, 0, 0), BEYOND);
        x.sheet(1, 16, 5);
        due("other bits, before the rest", x.copy(0, 0, 1, 0, -1), KIND);
        x.sheet(1, 8, 3);
        due("copy(0,2,1,0,3)", x.copy(0, 2, 1, 0, 3), 3);
        holds("number 0", x, 1, 0, 3);
        holds("number 2", x, 1, 2, 5);
        due("n 0 at the end", x.copy(0, 5, 1, 3, 0), 0);
        due("n 0 beyond the end", x.copy(0, 6, 1, 0, 0), BEYOND);
        due("n 0 beyond the other's end", x.copy(0, 0, 1, 4, 0), BEYOND);
        due("not so many here", x.copy(0, 3, 1, 0, 3), BEYOND);
        due("not so many there", x.copy(0, 0, 1, 1, 3), BEYOND);
        due("n -1", x.copy(0, 1, 1, 1, -1), BEYOND);
        due("from -1", x.copy(0, -1, 1, 0, 1), BEYOND);
        due("to -1", x.copy(0, 0, 1, -1, 1), BEYOND);
        due("sums that wrap", x.copy(0, MAX, 1, 0, MAX), BEYOND);
        due("sums that wrap", x.copy(0, 0, 1, MAX, MAX), BEYOND);
        due("sums that wrap", x.copy(0, 1, 1, 1, MAX), BEYOND);
        due("sums that wrap", x.copy(0, MIN, 1, MIN, MIN), BEYOND);
        due("onto itself, behind", x.copy(0, 0, 0, 1, 4), 4);
        for (int i = 0; i < 5; i++) {
            holds("as they all were " + i, x, 0, i, new int[] {1, 1, 2, 3, 4}[i]);
        }
        due("onto itself, ahead", x.copy(0, 2, 0, 0, 3), 3);
        for (int i = 0; i < 5; i++) {
            holds("as they all were " + i, x, 0, i, new int[] {2, 3, 4, 3, 4}[i]);
        }
    }

    private static void load() {
        SownPaths x = new SownPaths();
        due("no such sheet", x.load(-1), BEYOND);
        due("no such sheet", x.load(4), BEYOND);
        due("missing", x.load(0), MISSING);
        Parks.row(x, 0, 32);
        due("no numbers", x.load(0), 0);
        Parks.row(x, 0, 32, 5, 0, 99, 100, 7);
        x.tread(1, 3);
        x.tread(4, 3);
        due("to the first that isn't path", x.load(0), 3);
        due("path 0", x.cell(0, 1), 5);
        due("path 1", x.cell(1, 1), 0);
        due("path 2", x.cell(2, 1), 99);
        due("path 3", x.cell(3, 1), 0);
        due("path 4", x.cell(4, 1), 3);
        Parks.row(x, 0, 32, 5, -1, 99);
        due("-1 ends it", x.load(0), 1);
        x.ground(0, 1);
        x.ground(1, 2);
        Parks.row(x, 0, 16, 5, 6, 7);
        due("water and walls come too", x.load(0), 3);
        due("and are left as they are", x.where(0), Parks.set(2, 4));
        due("path 2", x.cell(2, 1), 7);
        Parks.row(x, 0, 16, 500, 6, 7);
        due("not 0 to 99, of water too", x.load(0), 0);
        x.sheet(1, 8, 40);
        for (int i = 0; i < 40; i++) {
            x.write(1, i, i);
        }
        due("no more than there are cells", x.load(1), 36);
        due("the last", x.cell(35, 1), 35);
    }

    private static int verdict(SownPaths x, int... cells) {
        Parks.row(x, 2, 8, cells);
        return x.judge(2);
    }

    private static void judge() {
        SownPaths x = Parks.paths(0, 1, 2, 8, 5, 6);
        due("no such sheet", x.judge(-1), BEYOND);
        due("no such sheet", x.judge(4), BEYOND);
        due("missing", x.judge(2), MISSING);
        due("no numbers", verdict(x), 0);
        due("a way", verdict(x, 0, 1, 2, 8), 0);
        due("one cell", verdict(x, 8), 0);
        due("to and fro", verdict(x, 0, 1, 0, 1, 0, 6), 0);
        due("no path at once", verdict(x, 7, 1), 1);
        due("no cell", verdict(x, 36), 1);
        due("no cell", verdict(x, 0, -1), 2);
        due("no cell", verdict(x, 0, 127), 2);
        due("no neighbour", verdict(x, 0, 2), 2);
        due("not the same twice", verdict(x, 0, 0), 2);
        due("not round the edge", verdict(x, 5, 6), 2);
        due("a neighbour without path", verdict(x, 0, 1, 7, 8), 3);
        due("the first that isn't so", verdict(x, 0, 1, 2, 3, 99), 4);
        Parks.row(x, 2, 32, 0, 64);
        due("cell 64 is not cell 0", x.judge(2), 2);
        Parks.row(x, 2, 32, 64);
        due("cell 64 is not cell 0", x.judge(2), 1);
    }

    private static void imageUndoTear() {
        SownPaths x = new SownPaths();
        due("nothing kept", x.undo(), NONE);
        x.ground(1, 1);
        x.ground(2, 2);
        x.tread(3, 50);
        x.sow(1, 20, 1);
        x.hold(4, 0);
        x.seed(77);
        x.go(1);
        due("image()", x.image(), 1);
        x.go(3);
        x.ground(1, 0);
        x.ground(2, 1);
        x.tread(9, 9);
        x.change(0, 0, 2);
        x.sow(2, 3, 0);
        x.hold(4, 1);
        x.hold(5, 1);
        x.seed(78);
        Parks.feed(x, "seed 9");
        Parks.row(x, 0, 8, 3);
        due("undo()", x.undo(), 1);
        due("water", x.where(1), Parks.set(1));
        due("wall", x.where(2), Parks.set(2));
        due("path", x.where(0), Parks.set(3, 21));
        due("path of 3", x.cell(3, 1), 49);
        due("seeds", x.count(1), 1);
        due("kind", x.of(0, 0), 1);
        due("head", x.of(0, 1), 21);
        due("age", x.of(0, 3), 1);
        due("spot 4", x.as(4, 1), 0);
        due("spots", x.count(7), 1);
        due("z", x.count(6), 77);
        due("the tape stays", x.count(5), 6);
        due("sheets stay", x.judge(0), 0);
        due("findings stay", x.status(3), 1);
        x.go(5);
        due("what was kept stays", x.undo(), 1);
        x.go(1);
        x.image();
        x.go(1);
        due("the latest", x.undo(), 2);
        due("tear()", x.tear(), 1);
        due("tear()", x.tear(), 0);
        due("nothing kept", x.undo(), NONE);
        due("the park stays", x.now(0), 2);
        due("findings", x.status(3), 2);
        due("image()", x.image(), 1);
        due("undo()", x.undo(), 2);
    }

    private static void count() {
        SownPaths x = Parks.paths(1, 6, 7, 8, 13);
        x.sow(0, 35, 0);
        x.sow(0, 34, 0);
        x.change(1, 3, 20);
        x.hold(0, 1);
        x.hold(3, 1);
        x.hold(9, 0);
        x.seed(-9);
        Parks.feed(x, "abc");
        x.go(1);
        int[] dues = {1, 2, 1, 6, 1, 3, -9, 3};
        for (int what = 0; what < dues.length; what++) {
            due("count(" + what + ")", x.count(what), dues[what]);
        }
        due("count(8)", x.count(8), BEYOND);
        due("count(-1)", x.count(-1), BEYOND);
        due("count(min)", x.count(MIN), BEYOND);
    }

    private static void status() {
        SownPaths x = new SownPaths();
        x.sow(9, 9, 9);
        due("BEYOND", x.status(0), 1);
        for (int i = 0; i < 9; i++) {
            x.sow(0, 0, 0);
        }
        due("FULL", x.status(1), 1);
        x.hold(0, 0);
        x.as(0, 1);
        x.as(0, 2);
        due("KIND", x.status(2), 2);
        x.way(0, 1);
        x.parts(0, 1);
        x.undo();
        due("NONE", x.status(3), 3);
        x.ground(3, 1);
        x.tread(3, 3);
        due("STATE", x.status(4), 1);
        x.load(0);
        x.judge(0);
        x.fits(0, 0, 0);
        x.as(1, 0);
        due("MISSING", x.status(5), 4);
        x.sheet(0, 8, -1);
        due("SIZE", x.status(6), 1);
        due("all", x.status(-1), 13);
        due("another one", x.status(7), BEYOND);
        due("counted from then on", x.status(0), 2);
        due("another one", x.status(-2), BEYOND);
        due("all", x.status(-1), 15);
        x.where(9);
        x.joined(99);
        x.there(99);
        x.odds(99, 0);
        due("longs count, too", x.status(0), 7);
        x.image();
        x.cell(99, 0);
        x.undo();
        due("undo takes none back", x.status(0), 8);
    }
}
