import java.lang.reflect.Method;
import java.util.ArrayList;
import java.util.Arrays;
import java.util.Comparator;
import java.util.List;
import java.util.Random;

/** Random runs of 512 calls, each answer held against that of the model. */
public final class ModelTest {
    private static final int RUNS = 600;
    private static final int[] WILD = {Integer.MIN_VALUE, Integer.MIN_VALUE + 1, -1000001, -2, -1, 0, 1, 2, 3, 4, 5, 6,
        7, 8, 9, 10, 11, 12, 20, 21, 30, 31, 35, 36, 40, 41, 60, 61, 99, 100, 999, 1000, 65535, Integer.MAX_VALUE};
    private static final List<String> MAKING = List.of("ground", "tread", "sow", "change", "feed", "sheet", "write",
            "hold", "text", "load");

    public static void main(String[] args) throws Exception {
        List<Method> calls = new ArrayList<>();
        for (Method m : SownPaths.class.getDeclaredMethods()) {
            if (java.lang.reflect.Modifier.isPublic(m.getModifiers())) calls.add(m);
        }
        calls.sort(Comparator.comparing(Method::getName));
        Check check = new Check();
        check.due("how many calls the face has", calls.size(), 46);
        for (int run = 0; run < RUNS && check.isSound(); run++) {
            play(check, calls, new Random(7919L * run + 1), run);
        }
        check.end();
    }

    private static void play(Check check, List<Method> calls, Random random, int run) throws Exception {
        SownPaths x = new SownPaths();
        Model model = new Model();
        List<String> said = new ArrayList<>();
        int wildness = random.nextInt(3);
        int quiet = random.nextInt(4);
        for (int i = 0; i < 512 && check.isSound(); i++) {
            Method call = calls.get(random.nextInt(calls.size()));
            if (random.nextInt(3) == 0) {
                String name = MAKING.get(random.nextInt(MAKING.size()));
                for (Method m : calls) if (m.getName().equals(name)) call = m;
            }
            // A long run of seasons fades and kills most of what a run has built.
            if (call.getName().equals("go") && random.nextInt(4) < quiet) continue;
            if (call.getName().equals("feed") && random.nextInt(3) > 0) {
                feedWords(check, x, model, random, said);
                i += 30;
                continue;
            }
            if (call.getName().equals("judge") && random.nextInt(2) == 0) {
                i += writeWay(check, x, model, random, said);
            }
            if ((call.getName().equals("fits") || call.getName().equals("headings")) && random.nextInt(2) == 0) {
                i += writeForetold(check, x, model, call, random, said);
                continue;
            }
            Object[] values = new Object[call.getParameterCount()];
            for (int k = 0; k < values.length; k++) {
                values[k] = argument(call.getName(), k, random, wildness);
                if (most(call.getName(), k) == 35 && random.nextInt(3) == 0) values[k] = pathCell(model, random);
            }
            compare(check, x, model, call, values, said);
        }
        if (!check.isSound()) {
            System.out.println("run " + run + ":");
            for (String s : said) System.out.println("  " + s);
        }
    }

    private static void compare(Check check, SownPaths x, Model model, Method call, Object[] values, List<String> said)
            throws Exception {
        Method twin = Model.class.getDeclaredMethod(call.getName(), call.getParameterTypes());
        long want = ((Number) twin.invoke(model, values)).longValue();
        long got = ((Number) call.invoke(x, values)).longValue();
        String told = call.getName() + Arrays.toString(values);
        said.add(told + " -> " + got);
        check.due(told, got, want);
    }

    /** The greatest ordinary value of each argument. */
    private static int most(String name, int k) {
        switch (name) {
            case "ground": return k == 0 ? 35 : 2;
            case "cell": return k == 0 ? 35 : 3;
            case "tread": return k == 0 ? 35 : 99;
            case "sow": return new int[] {6, 35, 3}[k];
            case "of": return k == 0 ? 7 : 7;
            case "change": return k == 0 ? 7 : k == 1 ? 3 : 40;
            case "go": return 12;
            case "now": return 4;
            case "where": return 3;
            case "ahead": return k == 0 ? 35 : 60;
            case "head": return k == 0 ? 7 : 60;
            case "there": case "without": return 60;
            case "kindFor": case "headingFor": return k == 0 ? 7 : 60;
            case "sowFor": return new int[] {6, 35, 35, 30}[k];
            case "fits": case "headings": return new int[] {3, 7, 35}[k];
            case "dogs": return 20;
            case "odds": return k == 0 ? 11 : 1;
            case "feed": return k == 0 ? Integer.MAX_VALUE : 4;
            case "hold": return k == 0 ? 9 : 7;
            case "as": return k == 0 ? 9 : 6;
            case "sheet": return new int[] {3, 32, 40}[k];
            case "write": return new int[] {3, 40, 40}[k];
            case "copy": return new int[] {3, 20, 3, 20, 20}[k];
            case "load": case "judge": return 3;
            case "count": return 7;
            case "status": return 6;
            default: return 35;
        }
    }

    private static int argument(String name, int k, Random random, int wildness) {
        if (random.nextInt(40) < wildness) return WILD[random.nextInt(WILD.length)];
        if (name.equals("seed")) return random.nextInt();
        if (name.equals("sheet") && k == 1) return new int[] {8, 8, 16, 32, 32, 0, 24}[random.nextInt(7)];
        if (name.equals("sheet") && k == 2 && random.nextInt(2) == 0) return random.nextInt(4);
        if (name.equals("write") && k == 2 && random.nextInt(4) == 0) return random.nextInt(2) - 1;
        if (name.equals("write") && k == 1 && random.nextInt(2) == 0) return random.nextInt(5);
        if ((name.equals("when") || name.equals("way")) && random.nextInt(2) == 0) return random.nextInt(12);
        int most = most(name, k);
        return most == Integer.MAX_VALUE ? random.nextInt() : random.nextInt(most + 1);
    }

    private static int pathCell(Model model, Random random) {
        List<Integer> cells = new ArrayList<>();
        for (int c = 0; c < 36; c++) if (model.world.path[c] > 0) cells.add(c);
        return cells.isEmpty() ? random.nextInt(36) : cells.get(random.nextInt(cells.size()));
    }

    private static Method face(String name) {
        for (Method m : SownPaths.class.getDeclaredMethods()) if (m.getName().equals(name)) return m;
        throw new IllegalArgumentException(name);
    }

    /** Writes a sheet: how many calls it took. */
    private static int writeSheet(Check check, SownPaths x, Model model, int s, int[] row, List<String> said)
            throws Exception {
        compare(check, x, model, face("sheet"), new Object[] {s, 16, row.length}, said);
        for (int i = 0; i < row.length; i++) {
            compare(check, x, model, face("write"), new Object[] {s, i, row[i]}, said);
        }
        return row.length + 1;
    }

    /** A walk on paths on each sheet, now and then with a step that is none. */
    private static int writeWay(Check check, SownPaths x, Model model, Random random, List<String> said)
            throws Exception {
        int calls = 0;
        for (int s = 0; s < 4; s++) {
            int[] row = new int[random.nextInt(8)];
            int at = pathCell(model, random);
            for (int i = 0; i < row.length; i++) {
                row[i] = at;
                List<Integer> next = Model.World.around(at);
                boolean any = random.nextInt(12) == 0;
                next.removeIf(c -> !any && model.world.path[c] == 0);
                if (!next.isEmpty()) at = next.get(random.nextInt(next.size()));
                if (random.nextInt(30) == 0) at = random.nextInt(36);
            }
            calls += writeSheet(check, x, model, s, row, said);
        }
        return calls;
    }

    /** What the path of a cell would be, were a seed another one; then asks which it could be. */
    private static int writeForetold(Check check, SownPaths x, Model model, Method call, Random random,
            List<String> said) throws Exception {
        if (model.world.plants.isEmpty()) return 0;
        int seed = random.nextInt(model.world.plants.size());
        if (random.nextInt(2) == 0) {
            compare(check, x, model, face("change"), new Object[] {seed, 3, random.nextInt(4)}, said);
        }
        Model.World w = model.world.twin();
        w.plants.get(seed).kind = Model.KINDS.get(random.nextInt(7));
        w.plants.get(seed).heading = random.nextInt(4);
        int cell = w.later(random.nextInt(4)).plants.get(seed).cell();
        int[] row = new int[random.nextInt(7)];
        for (int i = 0; i < row.length; i++) {
            row[i] = random.nextInt(4) == 0 ? -1 : w.later(i).path[cell];
        }
        int s = random.nextInt(4);
        int calls = writeSheet(check, x, model, s, row, said);
        compare(check, x, model, call, new Object[] {s, seed, cell}, said);
        return calls + 2;
    }

    private static void feedWords(Check check, SownPaths x, Model model, Random random, List<String> said)
            throws Exception {
        Method feed = SownPaths.class.getDeclaredMethod("feed", int.class, int.class);
        Method text = SownPaths.class.getDeclaredMethod("text");
        String words = randomText(random);
        for (int i = 0; i < words.length(); i += 4) {
            int n = Math.min(4, words.length() - i);
            int bytes = random.nextInt();
            for (int k = 0; k < n; k++) bytes = bytes << 8 | words.charAt(i + k);
            compare(check, x, model, feed, new Object[] {bytes, n}, said);
        }
        said.add("(fed: " + words + ")");
        compare(check, x, model, text, new Object[0], said);
    }

    private static String randomText(Random random) {
        StringBuilder all = new StringBuilder();
        int items = 1 + random.nextInt(5);
        for (int i = 0; i < items; i++) {
            if (i > 0) all.append(';').append(" ".repeat(random.nextInt(2)));
            int sort = random.nextInt(6);
            if (sort < 2) {
                all.append(Model.KINDS.get(random.nextInt(7))).append(' ').append(random.nextInt(36));
                if (random.nextInt(2) == 0) all.append(Model.HEADINGS.get(random.nextInt(4)));
                if (random.nextInt(3) == 0) all.append("aged ").append(random.nextInt(12));
            } else if (sort < 4) {
                all.append(Model.GROUNDS.get(random.nextInt(3))).append(' ').append(random.nextInt(36));
            } else {
                all.append("path ").append(random.nextInt(36)).append(' ').append(random.nextInt(100));
            }
        }
        int spoil = random.nextInt(3);
        if (spoil == 0) {
            int place = random.nextInt(all.length());
            all.setCharAt(place, (char) random.nextInt(256));
        } else if (spoil == 1 && random.nextInt(2) == 0) {
            all.setLength(random.nextInt(all.length()));
        }
        return all.substring(0, Math.min(120, all.length()));
    }
}
