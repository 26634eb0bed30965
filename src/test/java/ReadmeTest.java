import java.lang.reflect.Method;
import java.lang.reflect.Modifier;
import java.net.URL;
import java.net.URLClassLoader;
import java.nio.file.Files;
import java.nio.file.Path;
import java.util.ArrayList;
import java.util.Comparator;
import java.util.LinkedHashMap;
import java.util.List;
import java.util.Map;
import java.util.Set;
import java.util.TreeSet;
import java.util.regex.Matcher;
import java.util.regex.Pattern;
import java.util.stream.Stream;
import javax.tools.ToolProvider;

/** What README.md says must be so: its examples, its tables, its list of tests. */
public final class ReadmeTest {
    private static final Pattern ASKED =
        Pattern.compile("^(x\\.(\\w+)\\(.*\\)); +// (-?\\d+|NONE|BAD|NOT|FULL|Integer\\.MIN_VALUE|Long\\.MIN_VALUE \\+ 2)\\b.*$");
    private static final Pattern REFUSAL = Pattern.compile("\\b(BAD|NOT|FULL|NULL|CAST|INDEX|STORE|SIZE)\\b");

    public static void main(String[] args) throws Exception {
        String readme = Files.readString(Path.of("README.md"));
        String document = Files.readString(Path.of("../shared/DOC.md"));
        examples(readme);
        calls(readme, document);
        refusals(readme);
        tests(readme);
        Check.finish();
    }

    // ---- the examples

    private static List<String> blocks(String readme) {
        List<String> blocks = new ArrayList<>();
        for (Matcher m = Pattern.compile("(?s)```java\n(.*?)```").matcher(readme); m.find();) blocks.add(m.group(1));
        return blocks;
    }

    /** Each line with an answer behind it becomes a question; all others stand as they are. */
    private static void examples(String readme) throws Exception {
        Set<String> called = new TreeSet<>();
        int number = 0;
        for (String block : blocks(readme)) {
            StringBuilder code = new StringBuilder();
            for (String line : block.split("\n")) {
                Matcher asked = ASKED.matcher(line);
                boolean bare = line.startsWith("x.");
                Check.holds("an answer stands behind: " + line, !bare || asked.matches());
                if (bare && asked.matches()) {
                    called.add(asked.group(2));
                    code.append("Check.due(\"README: ").append(asked.group(1).replace("\"", "\\\"")).append("\", ");
                    code.append(asked.group(1)).append(", ").append(constant(asked.group(3))).append(");\n");
                } else {
                    code.append(line).append("\n");
                }
                for (Matcher m = Pattern.compile("\\bx\\.(\\w+)\\(").matcher(line); m.find();) called.add(m.group(1));
            }
            run("Example" + number++, code.toString());
        }
        Check.due("examples", number, 2);
        Check.holds("all calls are shown, not only " + called, called.equals(face()));
    }

    private static String constant(String answer) {
        if (answer.matches("-?\\d+")) return answer + "L";
        return answer.contains(".") ? answer : "WireWalkers." + answer;
    }

    private static void run(String name, String code) throws Exception {
        Path made = Files.createTempDirectory("readme");
        try {
            Path source = made.resolve(name + ".java");
            Files.writeString(source, "public class " + name + " { public static void main(String[] a) {\n" + code + "} }\n");
            int failed = ToolProvider.getSystemJavaCompiler().run(null, null, null, "-nowarn",
                "-cp", System.getProperty("java.class.path"), "-d", made.toString(), source.toString());
            Check.due(name + " compiles", failed, 0);
            if (failed == 0) {
                // Check is package-visible, and a package is one loader's alone: this loader brings its own.
                List<URL> urls = new ArrayList<>(List.of(made.toUri().toURL()));
                for (String part : System.getProperty("java.class.path").split(java.io.File.pathSeparator)) {
                    urls.add(Path.of(part).toUri().toURL());
                }
                try (URLClassLoader loader = new URLClassLoader(urls.toArray(new URL[0]), ClassLoader.getPlatformClassLoader())) {
                    loader.loadClass(name).getMethod("main", String[].class).invoke(null, (Object) new String[0]);
                    Method wrong = loader.loadClass("Check").getDeclaredMethod("wrong");
                    wrong.setAccessible(true);
                    Check.due(name + ": wrong answers", (Integer) wrong.invoke(null), 0);
                }
            }
        } finally {
            try (Stream<Path> files = Files.walk(made)) {
                for (Path file : files.sorted(Comparator.reverseOrder()).toList()) Files.delete(file);
            }
        }
    }

    private static Set<String> face() {
        Set<String> face = new TreeSet<>();
        for (Method m : WireWalkers.class.getDeclaredMethods()) {
            if (Modifier.isPublic(m.getModifiers())) face.add(m.getName());
        }
        return face;
    }

    // ---- the table of calls

    /** Calls as the document has them, each with its refusals in their order. */
    private static Map<String, List<String>> promised(String document) {
        Map<String, String> calls = new LinkedHashMap<>();
        Matcher faces = Pattern.compile("public (?:int|long) (\\w+)\\(([^)]*)\\);").matcher(document);
        while (faces.find()) {
            calls.put(faces.group(1), faces.group(1) + "(" + faces.group(2).replace("int ", "") + ")");
        }
        Map<String, List<String>> promised = new LinkedHashMap<>();
        for (Map.Entry<String, String> call : calls.entrySet()) {
            Matcher text = Pattern.compile("## Promise \\d+: " + call.getKey() + "\n\n(.*)\n").matcher(document);
            Check.holds("a promise of " + call.getKey(), text.find());
            promised.put(call.getValue(), refusalsIn(text.group(1)));
        }
        return promised;
    }

    private static List<String> refusalsIn(String text) {
        List<String> found = new ArrayList<>();
        for (Matcher m = REFUSAL.matcher(text); m.find();) found.add(m.group());
        return found;
    }

    private static void calls(String readme, String document) {
        Map<String, List<String>> told = new LinkedHashMap<>();
        Matcher rows = Pattern.compile("(?m)^\\| `(\\w+\\([^)]*\\))` \\| [^|]+ \\| ?([^|]*)\\|$").matcher(readme);
        while (rows.find()) told.put(rows.group(1), refusalsIn(rows.group(2)));
        Map<String, List<String>> promised = promised(document);
        Check.due("calls of the document", promised.size(), 37);
        Check.holds("calls in their order: " + told.keySet(), List.copyOf(told.keySet()).equals(List.copyOf(promised.keySet())));
        for (String call : promised.keySet()) {
            Check.holds("refusals of " + call + ": " + told.get(call), promised.get(call).equals(told.get(call)));
        }
    }

    /** The examples above bring each of these about, so the numbers have only to be the same. */
    private static void refusals(String readme) {
        Map<String, String> numbers = new LinkedHashMap<>();
        Matcher rows = Pattern.compile("(?m)^\\| ([A-Z]+) \\| (-\\d+) \\| .* \\|$").matcher(readme);
        while (rows.find()) numbers.put(rows.group(1), rows.group(2));
        Check.due("numbers of refusals", numbers.size(), 9);
        int[] constants = {WireWalkers.NONE, WireWalkers.BAD, WireWalkers.NOT, WireWalkers.FULL};
        String[] names = {"NONE", "BAD", "NOT", "FULL"};
        for (int k = 0; k < 4; k++) Check.holds(names[k], String.valueOf(constants[k]).equals(numbers.get(names[k])));
        String examples = String.join("\n", blocks(readme));
        for (String finding : new String[] {"NULL", "INDEX", "CAST", "STORE", "SIZE"}) {
            Check.holds(finding + " by example", examples.contains("// " + numbers.get(finding) + ": " + finding));
        }
    }

    // ---- the list of tests

    private static void tests(String readme) throws Exception {
        Set<String> there = new TreeSet<>();
        try (Stream<Path> files = Files.list(Path.of("src/test/java"))) {
            for (Path file : files.toList()) {
                String name = file.getFileName().toString();
                if (name.endsWith("Test.java")) there.add(name.replace(".java", ""));
            }
        }
        Set<String> told = new TreeSet<>();
        for (Matcher m = Pattern.compile("`(\\w+Test)`").matcher(readme); m.find();) told.add(m.group(1));
        Check.holds("tests told " + told + ", there are " + there, told.equals(there));
        Check.holds(".ci/run can be run", Files.isExecutable(Path.of(".ci/run")));
    }
}
