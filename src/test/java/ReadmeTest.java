import java.io.File;
import java.lang.reflect.Method;
import java.net.URL;
import java.net.URLClassLoader;
import java.nio.file.Files;
import java.nio.file.Path;
import java.util.ArrayList;
import java.util.LinkedHashMap;
import java.util.List;
import java.util.Map;
import java.util.TreeMap;
import java.util.TreeSet;
import java.util.regex.Matcher;
import java.util.regex.Pattern;
import javax.tools.JavaCompiler;
import javax.tools.ToolProvider;

/**
 * What README.md says of the use of the class holds as it is written there: its Java is compiled as it stands, each
 * call is asked for the answer behind it, and each table that is told with an answer is read back; the calls, STEPS
 * and tests that it names are those that there are.
 */
public final class ReadmeTest {
    private static final Pattern ASKED = Pattern.compile("(\\S.*);\\s+// (-?\\d+)(: .*)?");
    private static final Pattern TOLD = Pattern.compile("TABLE (\\d) is \"([^\"]*)\"");
    private static final Pattern CALL = Pattern.compile("(?m)^\\| `(\\w+)\\(([^)]*)\\)` \\|");
    private static final Pattern STEP = Pattern.compile("(\\d+) ([a-z]+)((?: [NM])*);");
    private static final Pattern TEST = Pattern.compile("`(\\w+Test)`");
    private static final String NEW_OBJECT = "TableWays x = new TableWays();";

    /** Public, as the examples' class has a loader of its own. */
    public static void answer(String where, long got, long want) {
        Check.due(where, got, want);
    }

    public static void told(String where, TableWays x, int t, String want) {
        Check.due(where + ", TABLE " + t, Check.read(x, t), want);
    }

    /** The blocks of Java by the number of their first line. */
    private static Map<Integer, List<String>> blocks(List<String> readme) {
        Map<Integer, List<String>> all = new LinkedHashMap<>();
        List<String> open = null;
        for (int i = 0; i < readme.size(); i++) {
            String line = readme.get(i);
            if (line.equals("```java")) {
                open = new ArrayList<>();
                all.put(i + 2, open);
            } else if (line.equals("```")) {
                open = null;
            } else if (open != null) {
                open.add(line);
            }
        }
        return all;
    }

    private static String quoted(String text) {
        return "\"" + text.replace("\\", "\\\\").replace("\"", "\\\"") + "\"";
    }

    /** A line of an example as Java that compares: the answer, then the tables told with it. */
    private static String comparing(int number, String line) {
        Matcher asked = ASKED.matcher(line);
        if (!asked.matches()) {
            Check.due("README.md line " + number + " tells an answer: " + line, 0, 1);
            return line;
        }
        String where = "README.md line " + number + ": " + asked.group(1);
        StringBuilder s = new StringBuilder();
        s.append("ReadmeTest.answer(" + quoted(where) + ", " + asked.group(1) + ", " + asked.group(2) + "L);");
        Matcher told = TOLD.matcher(asked.group(3) == null ? "" : asked.group(3));
        while (told.find()) {
            s.append(" ReadmeTest.told(" + quoted(where) + ", x, " + told.group(1) + ", " + quoted(told.group(2)) + ");");
        }
        return s.toString();
    }

    /** One class of all blocks: an example is a method of its own, a method stands there as it is. */
    private static String program(Map<Integer, List<String>> blocks) {
        StringBuilder s = new StringBuilder("public final class ReadmeExamples {\n");
        StringBuilder main = new StringBuilder("public static void main(String[] args) {\n");
        blocks.forEach((first, lines) -> {
            if (!lines.get(0).equals(NEW_OBJECT)) {
                s.append(String.join("\n", lines)).append('\n');
                return;
            }
            main.append("example" + first + "();\n");
            s.append("static void example" + first + "() {\n").append(NEW_OBJECT).append('\n');
            for (int i = 1; i < lines.size(); i++) {
                s.append(comparing(first + i, lines.get(i))).append('\n');
            }
            s.append("}\n");
        });
        return s.append(main).append("}\n}\n").toString();
    }

    private static void run(String program) throws Exception {
        Path out = Files.createTempDirectory("readme");
        try {
            Path source = Files.writeString(out.resolve("ReadmeExamples.java"), program);
            JavaCompiler compiler = ToolProvider.getSystemJavaCompiler();
            int failed = compiler.run(null, null, null, "-proc:none", "-d", out.toString(), "-cp",
                System.getProperty("java.class.path"), source.toString());
            Check.due("README.md's Java compiles", failed, 0);
            if (failed == 0) {
                try (URLClassLoader loader = new URLClassLoader(new URL[] {out.toUri().toURL()},
                        ReadmeTest.class.getClassLoader())) {
                    Method main = loader.loadClass("ReadmeExamples").getMethod("main", String[].class);
                    main.invoke(null, (Object) new String[0]);
                }
            }
        } finally {
            for (File file : out.toFile().listFiles()) {
                file.delete();
            }
            out.toFile().delete();
        }
    }

    /** The calls are told once each, with as many numbers as they have, and each is used in an example. */
    private static void calls(String readme, String program) {
        Map<String, Integer> told = new TreeMap<>();
        Matcher call = CALL.matcher(readme);
        while (call.find()) {
            Check.due("README.md tells " + call.group(1) + " once", told.containsKey(call.group(1)) ? 1 : 0, 0);
            told.put(call.group(1), call.group(2).split(", ").length);
        }
        Map<String, Integer> there = new TreeMap<>();
        for (Method m : TableWays.class.getMethods()) {
            if (m.getDeclaringClass() == TableWays.class) {
                there.put(m.getName(), m.getParameterCount());
                Check.due(m.getName() + " in the examples of README.md", program.contains("x." + m.getName() + "(") ? 1 : 0, 1);
            }
        }
        Check.due("the calls that README.md tells", told.toString(), there.toString());
    }

    /** The STEPS are told by their numbers, and a WAY of one of them is read as that STEP with its numbers. */
    private static void steps(String readme) {
        Matcher step = STEP.matcher(readme);
        int number = 0;
        while (step.find()) {
            number++;
            String numbers = step.group(3);
            Check.due("README.md's number of " + step.group(2), Long.parseLong(step.group(1)), number);
            String text = step.group(2) + numbers.replace("N", "5").replace("M", ".") + ";";
            TableWays x = new TableWays();
            Check.due(text + " as README.md tells it", Check.way(x, 0, text), 1);
            String a = numbers.isEmpty() ? "0" : "5";
            String b = numbers.endsWith("M") ? "3" : numbers.endsWith("N N") ? "5" : "0";
            Check.due(text + " as README.md tells it", Check.readWay(x, 0), number + "." + a + "." + b);
        }
        Check.due("STEPS that README.md tells", number, 14);
    }

    /** Those of the promises are told as a row from the first to the last. */
    private static void tests(String readme, File directory) {
        TreeSet<String> there = new TreeSet<>();
        TreeSet<String> promises = new TreeSet<>();
        for (String name : directory.list()) {
            if (name.endsWith("Test.java")) {
                String plain = name.substring(0, name.length() - 5);
                (plain.startsWith("Promise") ? promises : there).add(plain);
            }
        }
        Check.due("tests of promises", promises.size(), 20);
        Check.due("README.md tells the promises' row",
            readme.contains("`" + promises.first() + "` .. `" + promises.last() + "`") ? 1 : 0, 1);
        TreeSet<String> told = new TreeSet<>();
        Matcher test = TEST.matcher(readme);
        while (test.find()) {
            if (!test.group(1).startsWith("Promise")) {
                told.add(test.group(1));
            }
        }
        Check.due("the tests that README.md tells", told.toString(), there.toString());
    }

    public static void main(String[] args) throws Exception {
        Path project = Path.of(System.getProperty("project", "."));
        List<String> lines = Files.readAllLines(project.resolve("README.md"));
        String readme = String.join("\n", lines);
        Map<Integer, List<String>> blocks = blocks(lines);
        Check.due("examples in README.md", blocks.size() > 3 ? 1 : 0, 1);
        String program = program(blocks);
        run(program);
        calls(readme, program);
        steps(readme);
        tests(readme, project.resolve("src/test/java").toFile());
        Check.end();
    }
}
