import java.lang.reflect.Constructor;
import java.lang.reflect.Field;
import java.lang.reflect.Method;
import java.lang.reflect.Modifier;
import java.nio.file.Files;
import java.nio.file.Path;
import java.util.ArrayList;
import java.util.Arrays;
import java.util.HashMap;
import java.util.List;
import java.util.Map;
import java.util.Set;
import java.util.TreeSet;
import java.util.regex.Matcher;
import java.util.regex.Pattern;

/** The public face, and those rules of LANGUAGE.md that can be seen from the class and its text. Run from the project's root. */
public final class RulesTest {
    private static final String FACE = """
        boolean feed(int)
        boolean put(int)
        int clear()
        int invoke(int, int, long, long, long)
        int load(int)
        int memory(int, int)
        int place()
        int printed(int)
        int trappedAt()
        int used()
        long global(int, int)
        long result()
        """;
    private static final String CONSTANTS = "BAD=-1 BOUNDS=4 DEPTH=8 DIVIDE=2 DONE=0 EMPTY=6 FUEL=9 INVALID=2 LINK=3 MALFORMED=1 OK=0 OVERFLOW=3 SIGNATURE=7 TABLE=5 UNREACHABLE=1";
    private static final String FORBIDDEN = "import package throw throws try catch finally synchronized assert instanceof null float double String "
        + "Object Math Integer Long System Arrays protected interface enum record extends implements native volatile var";

    public static void main(String[] args) throws Exception {
        face();
        fields();
        String text = Files.readString(Path.of("src/main/java/WasmSandbox.java"));
        words(text.replaceAll("(?s)/\\*.*?\\*/", "").replaceAll("//[^\n]*", ""));
        Kit.end();
    }

    private static void must(String what, boolean holds) {
        Kit.due(what, holds, true);
    }

    private static void face() throws Exception {
        Class<?> c = WasmSandbox.class;
        must("public and final", c.getModifiers() == (Modifier.PUBLIC | Modifier.FINAL));
        must("no nested class", c.getDeclaredClasses().length == 0);
        Constructor<?>[] constructors = c.getDeclaredConstructors();
        must("one public constructor", constructors.length == 1 && Modifier.isPublic(constructors[0].getModifiers()) && constructors[0].getParameterCount() == 0);
        Set<String> found = new TreeSet<>();
        Set<String> publicNames = new TreeSet<>();
        Set<String> privateNames = new TreeSet<>();
        for (Method m : c.getDeclaredMethods()) {
            boolean isPublic = Modifier.isPublic(m.getModifiers());
            must(m.getName() + " is public or private", isPublic || Modifier.isPrivate(m.getModifiers()));
            must(m.getName() + " has at most seven parameters", m.getParameterCount() <= 7);
            must(m.getName() + " answers no array", !m.getReturnType().isArray());
            (isPublic ? publicNames : privateNames).add(m.getName());
            if (isPublic) {
                String parameters = String.join(", ", Arrays.stream(m.getParameterTypes()).map(Class::getName).toList());
                found.add(m.getReturnType().getName() + " " + m.getName() + "(" + parameters + ")\n");
            }
        }
        must("the methods of the face: " + found, String.join("", found).equals(FACE));
        privateNames.retainAll(publicNames);
        must("no private method with a public one's name: " + privateNames, privateNames.isEmpty());
    }

    private static void fields() throws Exception {
        List<String> constants = new ArrayList<>();
        int others = 0;
        for (Field f : WasmSandbox.class.getDeclaredFields()) {
            int modifiers = f.getModifiers();
            if (Modifier.isStatic(modifiers)) {
                must(f.getName() + " is a constant", Modifier.isFinal(modifiers) && (f.getType() == int.class || f.getType() == long.class));
                if (Modifier.isPublic(modifiers)) {
                    constants.add(f.getName() + "=" + f.getInt(null));
                    continue;
                }
            } else {
                others++;
                must(f.getName() + " is a final array or a number", !f.getType().isArray() || Modifier.isFinal(modifiers));
            }
            must(f.getName() + " is private", Modifier.isPrivate(modifiers));
        }
        constants.sort(null);
        must("the constants of the face: " + constants, String.join(" ", constants).equals(CONSTANTS));
        must("some forty fields: " + others, others <= 40);
    }

    private static void words(String text) {
        for (String word : FORBIDDEN.split(" ")) {
            must("no " + word, !Pattern.compile("\\b" + word + "\\b").matcher(text).find());
        }
        must("no arrow and no reference to a method", !text.contains("->") && !text.contains("::"));
        must("no string or character", !text.contains("\"") && !text.contains("'"));
        Matcher made = Pattern.compile("\\bnew\\b[^;]*;").matcher(text);
        while (made.find()) {
            must("an array of a constant length: " + made.group(), made.group().matches("new (int|long|boolean)\\[[A-Z_]+\\];"));
        }
        loops(text);
        methods(text);
    }

    /** Each loop counts, up or down, against a bound in its own line. */
    private static void loops(String text) {
        must("no loop but for", !Pattern.compile("\\b(while|do)\\b").matcher(text).find());
        Matcher m = Pattern.compile("\\bfor \\([^{]*\\{").matcher(text);
        while (m.find()) {
            must("a counter against a bound: " + m.group(), m.group().matches("for \\(int (\\w+) = [^;]+; \\1 (<|<=|>|>=) [^;]+; \\1(\\+\\+|--)\\) \\{"));
        }
    }

    private static void methods(String text) {
        Map<String, String> bodies = new HashMap<>();
        Matcher m = Pattern.compile("(?ms)^    (?:public|private)(?: static)? (?:int|long|boolean|void) (\\w+)\\([^)]*\\) \\{\n(.*?)^    \\}").matcher(text);
        while (m.find()) {
            bodies.put(m.group(1), m.group(2));
            must(m.group(1) + " is short", m.group(2).lines().count() <= 60);
            must(m.group(1) + " makes nothing", !m.group(2).matches("(?s).*\\bnew\\b.*"));
        }
        must("all methods were seen", bodies.size() == Arrays.stream(WasmSandbox.class.getDeclaredMethods()).map(Method::getName).distinct().count());
        for (String name : bodies.keySet()) {
            int deep = depth(name, bodies, 1);
            must(name + " goes six deep at most: " + deep, deep <= 6);
            innerCalls(name, bodies);
        }
    }

    /** How deep the calls of a method go; a recursion would go on, so it is cut at 20. */
    private static int depth(String name, Map<String, String> bodies, int soFar) {
        int most = soFar;
        Matcher m = Pattern.compile("\\b(\\w+)\\(").matcher(bodies.get(name));
        while (m.find() && soFar < 20) {
            if (bodies.containsKey(m.group(1))) {
                most = Math.max(most, depth(m.group(1), bodies, soFar + 1));
            }
        }
        return most;
    }

    private static void innerCalls(String name, Map<String, String> bodies) {
        String body = bodies.get(name);
        Matcher m = Pattern.compile("\\b(\\w+)\\(").matcher(body);
        while (m.find()) {
            if (bodies.containsKey(m.group(1))) {
                int open = 1;
                int end = m.end();
                while (open > 0) {
                    open += body.charAt(end) == '(' ? 1 : body.charAt(end) == ')' ? -1 : 0;
                    end++;
                }
                String arguments = body.substring(m.end(), end);
                must(name + ": no call in the arguments " + arguments, !Pattern.compile("\\b\\w+\\(").matcher(arguments).find());
            }
        }
    }
}
