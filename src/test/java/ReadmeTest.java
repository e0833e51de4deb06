import java.io.File;
import java.io.IOException;
import java.lang.reflect.Method;
import java.lang.reflect.Modifier;
import java.nio.file.Files;
import java.nio.file.Path;
import java.util.List;
import java.util.Set;
import java.util.TreeSet;
import java.util.regex.Matcher;
import java.util.regex.Pattern;

/**
 * README.md shows calls with their answers, all calls in a table, and names all tests; .ci/run starts this in the
 * project's folder.
 */
public final class ReadmeTest {
    private static final String NEW = "EdgeJoin x = new EdgeJoin();";
    private static final Pattern TYPED = Pattern.compile("for \\(char c : \"(.*)\"\\.toCharArray\\(\\)\\) x\\.type\\(c\\);");
    private static final Pattern CALL = Pattern.compile("x\\.(\\w+)\\((.*)\\); +// (-?\\d+)(: .*)?");
    private static final Pattern ROW = Pattern.compile("\\| `(\\w+)\\((.*)\\)` \\| .* \\|");
    private static final Pattern TEST = Pattern.compile("`(\\w+Test)`");
    private static final Pattern CONSTANT = Pattern.compile("`([A-Z]+)` \\((-\\d+)\\)");

    private EdgeJoin x = null;
    private int answers = 0;

    public static void main(String[] args) throws IOException, ReflectiveOperationException {
        List<String> lines = Files.readAllLines(Path.of("README.md"));
        new ReadmeTest().examples(lines);
        table(lines);
        constants(String.join("\n", lines));
        tests(String.join("\n", lines));
        Check.end("ReadmeTest");
    }

    private void examples(List<String> lines) throws ReflectiveOperationException {
        boolean inside = false;
        for (String line : lines) {
            if (line.startsWith("```")) {
                inside = line.equals("```java");
                x = null;
            } else if (inside) {
                example(line);
            }
        }
        Check.holds("README.md shows calls with their answers", answers > 0);
    }

    private void example(String line) throws ReflectiveOperationException {
        Matcher typed = TYPED.matcher(line);
        Matcher call = CALL.matcher(line);
        if (line.equals(NEW)) {
            x = new EdgeJoin();
        } else if (x == null) {
            Check.holds("an example begins with a new object, not with " + line, false);
        } else if (typed.matches()) {
            for (char c : typed.group(1).toCharArray()) {
                x.type(c);
            }
        } else if (call.matches()) {
            answers++;
            Check.due("README.md: " + line, answerOf(call.group(1), call.group(2)), Long.parseLong(call.group(3)));
        } else {
            Check.holds("a line of README.md that can be tried: " + line, false);
        }
    }

    private long answerOf(String name, String arguments) throws ReflectiveOperationException {
        String[] words = arguments.isEmpty() ? new String[0] : arguments.split(", ");
        Object[] values = new Object[words.length];
        Class<?>[] types = new Class<?>[words.length];
        for (int i = 0; i < words.length; i++) {
            types[i] = int.class;
            values[i] = words[i].startsWith("EdgeJoin.")
                ? EdgeJoin.class.getField(words[i].substring(9)).getInt(null) : Integer.parseInt(words[i]);
        }
        return ((Number) EdgeJoin.class.getMethod(name, types).invoke(x, values)).longValue();
    }

    /** The table has each method once, with as many arguments as it takes. */
    private static void table(List<String> lines) {
        Set<String> due = new TreeSet<>();
        for (Method m : EdgeJoin.class.getDeclaredMethods()) {
            if (Modifier.isPublic(m.getModifiers())) {
                due.add(m.getName() + " " + m.getParameterCount());
            }
        }
        Set<String> rows = new TreeSet<>();
        for (String line : lines) {
            Matcher row = ROW.matcher(line);
            if (row.matches()) {
                int count = row.group(2).isEmpty() ? 0 : row.group(2).split(", ").length;
                Check.holds("once in README.md: " + row.group(1), rows.add(row.group(1) + " " + count));
            }
        }
        Check.holds("the calls of README.md are those of the class: " + rows, rows.equals(due));
    }

    private static void constants(String text) throws ReflectiveOperationException {
        Matcher constant = CONSTANT.matcher(text);
        int found = 0;
        while (constant.find()) {
            found++;
            Check.due("EdgeJoin." + constant.group(1), EdgeJoin.class.getField(constant.group(1)).getInt(null),
                Integer.parseInt(constant.group(2)));
        }
        Check.due("constants in README.md", found, 4);
    }

    private static void tests(String text) {
        Set<String> named = new TreeSet<>();
        Matcher test = TEST.matcher(text);
        while (test.find()) {
            named.add(test.group(1) + ".java");
        }
        Set<String> due = new TreeSet<>();
        for (String file : new File("src/test/java").list()) {
            if (file.endsWith("Test.java")) {
                due.add(file);
            }
        }
        Check.holds("the tests of README.md are those of the project: " + named, named.equals(due));
        Check.holds("README.md says how to run the tests", text.contains("bash .ci/run"));
    }
}
