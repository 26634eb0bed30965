import com.sun.source.tree.CompilationUnitTree;
import com.sun.source.tree.MethodInvocationTree;
import com.sun.source.tree.MethodTree;
import com.sun.source.util.JavacTask;
import com.sun.source.util.TreePathScanner;
import com.sun.source.util.Trees;
import java.lang.reflect.Constructor;
import java.lang.reflect.Field;
import java.lang.reflect.Method;
import java.lang.reflect.Modifier;
import java.nio.file.Files;
import java.nio.file.Path;
import java.util.ArrayList;
import java.util.HashSet;
import java.util.LinkedHashMap;
import java.util.List;
import java.util.Map;
import java.util.Set;
import java.util.TreeSet;
import java.util.regex.Matcher;
import java.util.regex.Pattern;
import javax.lang.model.element.Element;
import javax.tools.JavaCompiler;
import javax.tools.StandardJavaFileManager;
import javax.tools.ToolProvider;

/** The face of the document, and those rules of LANGUAGE.md that can be looked up in the source. */
public final class LanguageTest {
    private static final String FACE = "int type(int,int) int wipe(int) int undo(int) int fault(int) int walker(int,int)"
        + " int routine(int) int wire(int,int) int event(int,int,int) int back() int read(int) int at(int,int,int)"
        + " int lean(int,int) int sees(int,int) int sway(int) int ends(int,int) int sum(int) int who(int) int bare()"
        + " int start(int,int) int hold(int,int) int act(int,int) int spare(int) int seen(int,int,int) int forget()"
        + " int never() int was(int,int) int ask(int) long chance(int,int,int) int shows(int,int,int)"
        + " int sheet(int,int,int) int lose(int) int lay(int,int,int,int) int get(int,int,int)"
        + " int copy(int,int,int,int,int) int write(int,int) int count(int) long digest()";
    private static final String[] RULED_OUT = {"throw", "throws", "try", "catch", "synchronized", "assert", "->", "::",
        "protected", "var", "import java.io", "System.out", "System.nanoTime", "Random", "hashCode", "toString",
        "Exact", "interface", "Object", "Map", "Set", "Scanner", "Thread", "this"};

    public static void main(String[] args) throws Exception {
        face();
        String source = Files.readString(Path.of("src/main/java/WireWalkers.java"));
        String code = withoutComments(source);
        for (String word : RULED_OUT) {
            String edge = Character.isLetter(word.charAt(0)) ? "\\b" : "";
            Check.holds("no " + word, !Pattern.compile(edge + Pattern.quote(word) + edge).matcher(code).find());
        }
        library(code);
        methods(code);
        classes();
        depthOfCalls();
        Check.finish();
    }

    private static void face() {
        Class<?> c = WireWalkers.class;
        Check.holds("public and final", Modifier.isPublic(c.getModifiers()) && Modifier.isFinal(c.getModifiers()));
        Set<String> want = new TreeSet<>();
        for (Matcher m = Pattern.compile("(int|long) \\w+\\([^)]*\\)").matcher(FACE); m.find();) want.add(m.group());
        Set<String> got = new TreeSet<>();
        Set<String> open = new HashSet<>();
        List<String> hidden = new ArrayList<>();
        for (Method m : c.getDeclaredMethods()) {
            StringBuilder parameters = new StringBuilder();
            for (Class<?> p : m.getParameterTypes()) parameters.append(parameters.length() > 0 ? "," : "").append(p);
            if (Modifier.isPublic(m.getModifiers())) {
                got.add(m.getReturnType() + " " + m.getName() + "(" + parameters + ")");
                open.add(m.getName());
            } else {
                Check.holds(m.getName() + " is private", Modifier.isPrivate(m.getModifiers()));
                hidden.add(m.getName());
            }
        }
        Check.holds("the face: " + got, got.equals(want));
        for (Class<?> inner : c.getDeclaredClasses()) {
            for (Method m : inner.getDeclaredMethods()) hidden.add(m.getName());
        }
        for (String name : hidden) Check.holds(name + " is no public name", !open.contains(name));
        Constructor<?>[] made = c.getDeclaredConstructors();
        Check.holds("one public constructor", made.length == 1 && Modifier.isPublic(made[0].getModifiers()) && made[0].getParameterCount() == 0);
        Set<String> constants = new TreeSet<>();
        for (Field f : c.getDeclaredFields()) {
            if (Modifier.isPublic(f.getModifiers())) constants.add(f.getName());
            else Check.holds(f.getName() + " is private", Modifier.isPrivate(f.getModifiers()));
        }
        Check.holds("constants " + constants, constants.equals(new TreeSet<>(List.of("NONE", "BAD", "NOT", "FULL"))));
    }

    private static void library(String code) {
        for (Matcher m = Pattern.compile("import ([\\w.]+);").matcher(code); m.find();) {
            Check.holds("import " + m.group(1), m.group(1).equals("java.util.Arrays"));
        }
        Set<String> may = Set.of("Arrays.fill", "System.arraycopy", "Math.min", "Math.max", "Math.abs",
            "Integer.MIN_VALUE", "Long.MIN_VALUE", "Text.sortOf", "Text.moveOf", "Told.mayBeEvent");
        for (Matcher m = Pattern.compile("\\b[A-Z][a-z]\\w*\\.\\w+").matcher(code); m.find();) {
            Check.holds("may use " + m.group(), may.contains(m.group()));
        }
    }

    private static void methods(String code) {
        String[] lines = code.split("\n");
        int began = -1;
        String indent = "";
        for (int k = 0; k < lines.length; k++) {
            Matcher head = Pattern.compile("^( {4}| {8})[\\w\\[\\] ]+\\(([^)]*)\\) \\{$").matcher(lines[k]);
            if (head.find()) {
                began = k;
                indent = head.group(1);
                Check.holds("seven parameters at most: " + lines[k], head.group(2).split(",").length <= 7);
            } else if (began >= 0 && lines[k].equals(indent + "}")) {
                Check.holds("sixty lines at most: " + lines[began], k - began < 60);
                began = -1;
            }
        }
    }

    private static void classes() {
        Class<?>[] inner = WireWalkers.class.getDeclaredClasses();
        Check.holds("twelve classes at most", inner.length < 12);
        for (Class<?> c : inner) {
            Check.holds(c + " is static", Modifier.isStatic(c.getModifiers()));
            fewFields(c);
        }
        fewFields(WireWalkers.class);
    }

    private static void fewFields(Class<?> c) {
        int fields = 0;
        for (Field f : c.getDeclaredFields()) {
            if (Modifier.isStatic(f.getModifiers())) Check.holds(f + " is final", Modifier.isFinal(f.getModifiers()));
            else fields++;
        }
        Check.holds(c + " has twenty fields at most", fields <= 20);
    }

    /** Who calls whom in the class; rule 11 lets calls go eight deep, and the library's own is the eighth. */
    private static void depthOfCalls() throws Exception {
        JavaCompiler compiler = ToolProvider.getSystemJavaCompiler();
        StandardJavaFileManager files = compiler.getStandardFileManager(null, null, null);
        Path source = Path.of("src/main/java/WireWalkers.java");
        JavacTask task = (JavacTask) compiler.getTask(null, files, null, null, null, files.getJavaFileObjects(source));
        Iterable<? extends CompilationUnitTree> units = task.parse();
        task.analyze();
        Trees trees = Trees.instance(task);
        Map<Element, Set<Element>> calls = new LinkedHashMap<>();
        for (CompilationUnitTree unit : units) {
            new TreePathScanner<Void, Element>() {
                @Override
                public Void visitMethod(MethodTree method, Element outer) {
                    Element own = trees.getElement(getCurrentPath());
                    calls.computeIfAbsent(own, k -> new HashSet<>());
                    return super.visitMethod(method, own);
                }

                @Override
                public Void visitMethodInvocation(MethodInvocationTree call, Element own) {
                    if (own != null) calls.get(own).add(trees.getElement(getCurrentPath()));
                    return super.visitMethodInvocation(call, own);
                }
            }.scan(unit, null);
        }
        Check.holds("methods were found", calls.size() > 37);
        for (Element method : calls.keySet()) {
            List<String> longest = longestFrom(method, calls, 0);
            Check.holds("eight calls deep at most: " + longest, longest.size() <= 7);
        }
    }

    private static List<String> longestFrom(Element method, Map<Element, Set<Element>> calls, int depth) {
        List<String> longest = new ArrayList<>();
        if (depth > 20) return longest;
        for (Element next : calls.get(method)) {
            if (!calls.containsKey(next)) continue;
            List<String> way = longestFrom(next, calls, depth + 1);
            if (way.size() > longest.size()) longest = way;
        }
        longest.add(0, method.toString());
        return longest;
    }

    private static String withoutComments(String source) {
        return source.replaceAll("(?s)/\\*.*?\\*/", "").replaceAll("//[^\n]*", "");
    }
}
