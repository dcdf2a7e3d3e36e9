import java.lang.reflect.Constructor;
import java.lang.reflect.Field;
import java.lang.reflect.Method;
import java.lang.reflect.Modifier;
import java.nio.file.Files;
import java.nio.file.Path;
import java.util.HashMap;
import java.util.HashSet;
import java.util.Map;
import java.util.Set;
import java.util.TreeSet;
import java.util.regex.Matcher;
import java.util.regex.Pattern;

/** What of ../shared/LANGUAGE.md can be seen from the file and its classes. */
public final class LanguageTest {
    private static final Check CHECK = new Check();
    private static final String[] BANNED = {"\\bthrow\\b", "\\bthrows\\b", "\\btry\\b", "\\bcatch\\b", "\\bimport\\b",
        "\\bpackage\\b", "\\bsynchronized\\b", "\\bassert\\b", "->", "::", "static\\s*\\{", "Exact\\b", "\\bhashCode\\b",
        "\\btoString\\b", "\\bSystem\\.(?!arraycopy\\b)", "\\bvar\\b", "\\bprotected\\b", "\\bObject\\b", "@"};
    private static final String FACE = "int ground(int,int) int cell(int,int) int tread(int,int) int sow(int,int,int) "
            + "int of(int,int) int change(int,int,int) int apart(int,int) int go(int) int now(int) long where(int) "
            + "int way(int,int) long joined(int) int groups() int parts(int,int) int bridges(int,int) "
            + "int mend(int,int) int ahead(int,int) int head(int,int) int when(int,int) int bare() long there(int) "
            + "int kindFor(int,int) int headingFor(int,int) int sowFor(int,int,int,int) int without(int) int weed() "
            + "int fits(int,int,int) int headings(int,int,int) int dogs(int) long odds(int,int) int seed(int) "
            + "int feed(int,int) int wipe() int text() int hold(int,int) int as(int,int) int sheet(int,int,int) "
            + "int write(int,int,int) int copy(int,int,int,int,int) int load(int) int judge(int) int image() "
            + "int undo() int tear() int count(int) int status(int)";

    public static void main(String[] args) throws Exception {
        String all = Files.readString(Path.of("src/main/java/SownPaths.java"));
        CHECK.holds("signs 1 to 126 alone", all.chars().allMatch(c -> c == '\n' || c >= ' ' && c < 127));
        String code = all.replaceAll("(?s)/\\*.*?\\*/", "").replaceAll("//.*", "")
                .replaceAll("\"[^\"]*\"", "\"\"").replaceAll("'[^']*'", "0");
        for (String banned : BANNED) {
            CHECK.holds("no " + banned, !Pattern.compile(banned).matcher(code).find());
        }
        shortMethods(code);
        shallowCalls(code);
        face();
        insides();
        CHECK.end();
    }

    private static void shortMethods(String code) {
        String[] lines = code.split("\n");
        Pattern head = Pattern.compile("^( {4}| {8})\\w[\\w\\[\\] ]*\\(.*\\) \\{$");
        int methods = 0;
        for (int i = 0; i < lines.length; i++) {
            Matcher m = head.matcher(lines[i]);
            if (!m.matches()) continue;
            methods++;
            int end = i;
            while (!lines[end].equals(m.group(1) + "}")) end++;
            CHECK.holds("a short method: " + lines[i], end - i < 60);
        }
        CHECK.holds("methods were found", methods > 46);
    }

    /** Calls are found by their bare names, so that none is missed where two classes share one. */
    private static void shallowCalls(String code) {
        Map<String, String> bodies = new HashMap<>();
        Pattern head = Pattern.compile("(?m)^(?: {4}| {8})\\w[\\w\\[\\] ]*?(\\w+)\\([^\\n]*\\) \\{$");
        Matcher m = head.matcher(code);
        String name = null;
        int from = 0;
        while (m.find()) {
            if (name != null) bodies.merge(name, code.substring(from, m.start()), String::concat);
            name = m.group(1);
            from = m.end();
        }
        bodies.merge(name, code.substring(from), String::concat);
        CHECK.holds("methods have names", bodies.size() > 100);
        for (String act : bodies.keySet()) {
            CHECK.holds("no recursion, and eight calls deep at most: " + act, depth(act, bodies, new HashSet<>()) <= 8);
        }
    }

    private static int depth(String name, Map<String, String> bodies, Set<String> open) {
        if (!open.add(name)) return 1000;
        int deepest = 0;
        Set<String> seen = new HashSet<>();
        Matcher call = Pattern.compile("\\b(\\w+)\\(").matcher(bodies.get(name));
        while (call.find()) {
            if (bodies.containsKey(call.group(1)) && seen.add(call.group(1))) {
                deepest = Math.max(deepest, depth(call.group(1), bodies, open));
            }
        }
        open.remove(name);
        return deepest + 1;
    }

    private static String face(Method m) {
        StringBuilder all = new StringBuilder(m.getReturnType() + " " + m.getName() + "(");
        for (Class<?> type : m.getParameterTypes()) {
            all.append(all.charAt(all.length() - 1) == '(' ? "" : ",").append(type);
        }
        return all.append(')').toString();
    }

    private static void face() {
        Set<String> due = new TreeSet<>();
        Matcher m = Pattern.compile("(int|long) \\w+\\([^)]*\\)").matcher(FACE);
        while (m.find()) due.add(m.group());
        Set<String> got = new TreeSet<>();
        Set<String> names = new TreeSet<>();
        Class<?> c = SownPaths.class;
        for (Method method : c.getDeclaredMethods()) {
            if (Modifier.isPrivate(method.getModifiers())) continue;
            CHECK.holds("public: " + method, method.getModifiers() == Modifier.PUBLIC);
            got.add(face(method));
            names.add(method.getName());
        }
        CHECK.holds("the face: " + got, got.equals(due));
        CHECK.holds("public and final", c.getModifiers() == (Modifier.PUBLIC | Modifier.FINAL));
        Constructor<?>[] makers = c.getDeclaredConstructors();
        CHECK.holds("one public constructor", makers.length == 1 && makers[0].getModifiers() == Modifier.PUBLIC);
        for (Field f : c.getDeclaredFields()) CHECK.holds("private: " + f, Modifier.isPrivate(f.getModifiers()));
        ownNames(c, names);
        for (Class<?> inside : c.getDeclaredClasses()) ownNames(inside, names);
    }

    private static void ownNames(Class<?> c, Set<String> names) {
        for (Method m : c.getDeclaredMethods()) {
            if (c == SownPaths.class && !Modifier.isPrivate(m.getModifiers())) continue;
            CHECK.holds("a name of its own: " + m, !names.contains(m.getName()));
        }
    }

    private static void insides() {
        Class<?>[] insides = SownPaths.class.getDeclaredClasses();
        CHECK.holds("some twelve classes at most", insides.length < 12);
        for (Class<?> c : insides) {
            CHECK.holds("static: " + c, Modifier.isStatic(c.getModifiers()) && !Modifier.isPublic(c.getModifiers()));
            int own = 0;
            for (Field f : c.getDeclaredFields()) {
                if (!Modifier.isStatic(f.getModifiers())) own++;
                else CHECK.holds("final: " + f, Modifier.isFinal(f.getModifiers()));
            }
            CHECK.holds("some twenty fields at most: " + c, own <= 20);
            for (Method m : c.getDeclaredMethods()) {
                CHECK.holds("seven parameters at most: " + m, m.getParameterCount() <= 7);
            }
        }
    }
}
