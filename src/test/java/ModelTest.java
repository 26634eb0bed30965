import java.lang.reflect.Method;
import java.util.ArrayList;
import java.util.Arrays;
import java.util.Comparator;
import java.util.List;
import java.util.Random;

/** Random runs of calls: the class must answer as the model does. The seeds are fixed. */
public final class ModelTest {
    private static final String[] TELLING = {"type", "wipe", "undo", "wire", "event", "back", "read", "seen", "forget",
        "sheet", "lose", "lay", "copy", "write"};
    private static final int[] EDGES = {Integer.MIN_VALUE, Integer.MAX_VALUE, -1, -2, 41, 61, 256, 25, 24, 6, 1 << 30};
    private static Random random;
    private static List<Method> face;

    public static void main(String[] args) throws Exception {
        face = new ArrayList<>(Arrays.asList(WireWalkers.class.getDeclaredMethods()));
        face.removeIf(m -> !java.lang.reflect.Modifier.isPublic(m.getModifiers()));
        face.sort(Comparator.comparing(Method::getName));
        Check.due("methods of the face", face.size(), 37);
        int runs = args.length > 0 ? Integer.parseInt(args[0]) : 400;
        for (int seed = 0; seed < runs && Check.wrong() == 0; seed++) {
            random = new Random(seed);
            run(seed);
        }
        Check.finish();
    }

    private static void run(int seed) throws Exception {
        WireWalkers x = new WireWalkers();
        Model model = new Model();
        List<String> said = new ArrayList<>();
        int calls = 0;
        int scenes = 1 + random.nextInt(4);
        for (int scene = 0; scene < scenes; scene++) {
            calls += setScene(x, model, said);
            int more = 20 + random.nextInt(50);
            for (int k = 0; k < more && calls < 500; k++, calls++) {
                Method m = face.get(random.nextInt(face.size()));
                boolean rare = m.getName().equals("digest") || Arrays.asList(TELLING).contains(m.getName());
                if (rare && random.nextInt(3) > 0) continue;
                ask(x, model, said, m.getName(), arguments(m));
            }
        }
        ask(x, model, said, "digest");
        if (Check.wrong() > 0) {
            System.out.println("seed " + seed + ": " + said);
        }
    }

    private static int setScene(WireWalkers x, Model model, List<String> said) throws Exception {
        int before = said.size();
        ask(x, model, said, "wipe", 0);
        ask(x, model, said, "wipe", 1);
        StringBuilder walkers = new StringBuilder();
        int many = random.nextInt(7);
        int spread = 1 + random.nextInt(12);
        for (int w = 0; w < many; w++) {
            walkers.append(w > 0 ? ";" : "").append((char) ('a' + random.nextInt(random.nextInt(8) == 0 ? 24 : spread)));
            walkers.append("sbo".charAt(random.nextInt(3))).append(random.nextInt(10));
        }
        if (random.nextInt(12) == 0) walkers.append("x;a9sy".charAt(random.nextInt(6)));
        StringBuilder routine = new StringBuilder();
        String moves = random.nextBoolean() ? "ffffwlr" : "fwlr";
        for (int k = random.nextInt(25); k > 0; k--) routine.append(moves.charAt(random.nextInt(moves.length())));
        if (random.nextInt(12) == 0) routine.append("x;F".charAt(random.nextInt(3)));
        for (char c : walkers.toString().toCharArray()) ask(x, model, said, "type", 0, c);
        for (char c : routine.toString().toCharArray()) ask(x, model, said, "type", 1, c);
        ask(x, model, said, "wire", 0, random.nextBoolean() ? 5 + random.nextInt(8) : 5 + random.nextInt(36));
        ask(x, model, said, "wire", 1, random.nextInt(10));
        ask(x, model, said, "wire", 2, 3 + random.nextInt(18));
        for (int k = random.nextInt(5); k > 0; k--) {
            ask(x, model, said, "event", random.nextInt(3), random.nextInt(14), random.nextInt(6));
        }
        return said.size() - before;
    }

    private static int[] arguments(Method m) {
        int[] a = new int[m.getParameterCount()];
        for (int k = 0; k < a.length; k++) {
            int kind = random.nextInt(40);
            a[k] = kind == 0 ? EDGES[random.nextInt(EDGES.length)] : kind < 4 ? random.nextInt(64) - 3 : usual(m.getName(), k);
        }
        return a;
    }

    private static int usual(String name, int k) {
        String ranges = "type 2 256|wipe 2|undo 2|fault 2|walker 6 3|routine 24|wire 3 41|event 3 24 6|read 4|at 24 6 2"
            + "|lean 24 6|sees 24 41|sway 24|ends 6 3|sum 3|who 2|start 6 2|hold 6 2|act 24 2|spare 2|seen 24 6 4"
            + "|was 6 2|ask 6|chance 17 6 2|shows 1000000 25 2|sheet 4 3 61|lose 4|lay 4 3 20 7|get 4 3 30"
            + "|copy 4 20 4 20 20|write 6 4|count 9";
        for (String range : ranges.split("\\|")) {
            String[] parts = range.split(" ");
            if (parts[0].equals(name)) {
                int v = random.nextInt(Integer.parseInt(parts[k + 1]));
                return name.equals("spare") ? v - random.nextInt(2) : name.equals("shows") && k == 0 ? v * 7919 - 77 : v;
            }
        }
        return 0;
    }

    private static void ask(WireWalkers x, Model model, List<String> said, String name, int... a) throws Exception {
        Method method = null;
        for (Method m : face) if (m.getName().equals(name)) method = m;
        Object[] boxed = new Object[a.length];
        for (int k = 0; k < a.length; k++) boxed[k] = a[k];
        String call = name + Arrays.toString(a);
        said.add(call);
        long got = ((Number) method.invoke(x, boxed)).longValue();
        Check.due(call, got, model.call(name, a));
    }
}
