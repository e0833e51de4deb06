import java.io.IOException;
import java.lang.reflect.Constructor;
import java.lang.reflect.Field;
import java.lang.reflect.Method;
import java.lang.reflect.Modifier;
import java.nio.file.Files;
import java.nio.file.Path;
import java.util.List;
import java.util.Map;
import java.util.Set;
import java.util.TreeMap;
import java.util.TreeSet;
import java.util.regex.Matcher;
import java.util.regex.Pattern;

/** Looks in the program's text and in its class for what LANGUAGE.md rules out; .ci/run starts it in the project's folder. */
public final class LanguageTest {
    private static final List<String> FACE = List.of("piece", "turns", "drops", "makes", "cell", "of", "edge", "unlike",
        "mate", "pairs", "groups", "edges", "joins", "table", "puts", "takes", "at", "cost", "next", "type", "clear",
        "reads", "back", "told", "digest");
    private static final List<String> RULED_OUT = List.of("\\bthrow\\b", "\\bthrows\\b", "\\btry\\b", "\\bcatch\\b",
        "\\bassert\\b", "\\bsynchronized\\b", "\\bimport\\b", "->", "::", "\\bSystem\\.(?!arraycopy)", "\\bThread\\b",
        "Exact\\b", "MAX_VALUE", "MIN_VALUE", "\\bhashCode\\b", "\\bequals\\b", "\\btoString\\b", "\\bObject\\b",
        "\\bvar\\b", "\\bnative\\b", "\\bvolatile\\b");
    private static final int MOST_LINES = 60;
    private static final int MOST_DEEP = 8;

    public static void main(String[] args) throws IOException {
        String source = Files.readString(Path.of("src/main/java/EdgeJoin.java"));
        String code = source.replaceAll("(?s)/\\*.*?\\*/", "").replaceAll("//[^\n]*", "");
        words(code);
        newOnlyOnce(code);
        shortMethods(code);
        shallowCalls(code);
        face();
        nestedClasses();
        staticFields(EdgeJoin.class, code);
        Check.end("LanguageTest");
    }

    private static void words(String code) {
        for (String word : RULED_OUT) {
            Check.holds("no " + word + " in the program", !Pattern.compile(word).matcher(code).find());
        }
        Check.holds("only the signs 1 to 126 in the program", code.chars().allMatch(c -> c > 0 && c < 127));
    }

    /** Objects are made by fields' initialisers, and by History's constructor for its six states. */
    private static void newOnlyOnce(String code) {
        for (String line : code.split("\n")) {
            boolean field = line.matches(" +(private )?final [A-Za-z\\[\\]]+ \\w+ = new .*;");
            boolean state = line.strip().equals("kept[i] = new State();");
            Check.holds("an object made by a constructor in: " + line, !line.contains("new ") || field || state);
        }
    }

    private static void shortMethods(String code) {
        int start = 0;
        String[] lines = code.split("\n");
        for (int i = 0; i < lines.length; i++) {
            if (lines[i].matches(" +.*\\) \\{") && !lines[i].matches(" +(if|for|while|switch|\\}).*")) {
                start = i;
            }
            if (lines[i].matches(" {4,8}\\}")) {
                Check.holds("a method of at most 60 lines ends in line " + i, i - start <= MOST_LINES
                    || lines[i].matches(" {4}\\}"));
            }
        }
    }

    /** Rule 11, and rule 8: the search alone calls itself. A chain of calls counts from the public method. */
    private static void shallowCalls(String code) {
        Map<String, Set<String>> calls = new TreeMap<>();
        Matcher head = Pattern.compile("(?m)^ {4,8}(?:\\w+ )*[\\w\\[\\]]+ (\\w+)\\([^;]*?\\) \\{").matcher(code);
        while (head.find()) {
            String indent = head.group().replaceAll("(?s)\\S.*", "");
            int end = code.indexOf("\n" + indent + "}", head.end());
            Set<String> called = calls.computeIfAbsent(head.group(1), name -> new TreeSet<>());
            Matcher call = Pattern.compile("(\\w+)\\(").matcher(code.substring(head.end(), end));
            while (call.find()) {
                called.add(call.group(1));
            }
        }
        Check.holds("all methods of the face were found", calls.keySet().containsAll(FACE));
        // A State's copyFrom() calls that of its table.
        calls.get("copyFrom").remove("copyFrom");
        Check.holds("the search calls itself", calls.get("fillFrom").remove("fillFrom"));
        for (String name : calls.keySet()) {
            int deep = depthOf(name, calls, 0);
            Check.holds("calls from " + name + " go at most eight deep: " + deep, deep <= MOST_DEEP);
        }
    }

    /** How many methods stand open at once below and with this one; more than any limit if it is met again. */
    private static int depthOf(String name, Map<String, Set<String>> calls, int above) {
        int deepest = 0;
        if (above > 2 * MOST_DEEP) {
            return deepest;
        }
        for (String called : calls.getOrDefault(name, Set.of())) {
            boolean ours = calls.containsKey(called) || called.equals("min") || called.equals("abs");
            deepest = Math.max(deepest, ours ? depthOf(called, calls, above + 1) : 0);
        }
        return deepest + 1;
    }

    /** Rule 5. */
    private static void staticFields(Class<?> type, String code) {
        Check.holds("no static initialiser block", !Pattern.compile("\\bstatic\\s*\\{").matcher(code).find());
        Set<Class<?>> fine = Set.of(int.class, long.class, boolean.class, char.class, String.class, int[].class,
            long[].class, char[].class, byte[].class);
        for (Field f : type.getDeclaredFields()) {
            Check.holds(f + " may be static", !Modifier.isStatic(f.getModifiers()) || fine.contains(f.getType()));
        }
        for (Class<?> nested : type.getDeclaredClasses()) {
            staticFields(nested, code);
        }
    }

    private static void face() {
        Set<String> open = new TreeSet<>();
        for (Method m : EdgeJoin.class.getDeclaredMethods()) {
            if (!Modifier.isPrivate(m.getModifiers()) && !m.isSynthetic()) {
                open.add(m.getName());
                Check.holds(m + " is public and not static", m.toString().matches("public (int|long) .*"));
            } else {
                Check.holds("no private method bears the name " + m.getName(), !FACE.contains(m.getName()));
            }
        }
        Check.holds("the methods are those of the document: " + open, open.equals(new TreeSet<>(FACE)));
        Set<String> constants = new TreeSet<>();
        for (Field f : EdgeJoin.class.getDeclaredFields()) {
            if (!Modifier.isPrivate(f.getModifiers())) {
                constants.add(f.getName());
            }
            Check.holds(f + " is final if it is static",
                !Modifier.isStatic(f.getModifiers()) || Modifier.isFinal(f.getModifiers()));
        }
        Check.holds("the constants are those of the document: " + constants,
            constants.equals(Set.of("NONE", "BAD", "NO", "FULL")));
        Constructor<?>[] constructors = EdgeJoin.class.getDeclaredConstructors();
        Check.holds("one public constructor", constructors.length == 1
            && Modifier.isPublic(constructors[0].getModifiers()) && constructors[0].getParameterCount() == 0);
        Check.holds("a public final class", Modifier.isFinal(EdgeJoin.class.getModifiers()));
    }

    private static void nestedClasses() {
        Class<?>[] nested = EdgeJoin.class.getDeclaredClasses();
        Check.holds("at most twelve classes", nested.length < 12);
        for (Class<?> c : nested) {
            Check.holds(c + " is private and static", Modifier.isPrivate(c.getModifiers())
                && Modifier.isStatic(c.getModifiers()));
            Check.holds(c + " has at most twenty fields", c.getDeclaredFields().length <= 20);
            for (Method m : c.getDeclaredMethods()) {
                Check.holds("no method of " + c + " bears the name " + m.getName(), !FACE.contains(m.getName()));
                Check.holds(m + " takes at most seven parameters", m.getParameterCount() <= 7);
            }
        }
    }
}
