import java.util.Random;

/** Counts answers that are not as due, and ends a test with exit code 1 if there was one. */
final class Check {
    static final int LEAST = Integer.MIN_VALUE;
    static final long LONG_BAD = Long.MIN_VALUE + 2;
    private static int asked = 0;
    private static int wrong = 0;

    private Check() { }

    static void due(String call, long got, long want) {
        asked++;
        if (got != want) {
            wrong++;
            if (wrong <= 40) {
                System.out.println(call + " answered " + got + ", due is " + want);
            }
        }
    }

    static void holds(String what, boolean so) {
        due(what, so ? 1 : 0, 1);
    }

    static int wrong() {
        return wrong;
    }

    static void finish() {
        System.out.println(wrong == 0 ? asked + " answers are as due" : wrong + " of " + asked + " answers are not as due");
        System.exit(wrong == 0 ? 0 : 1);
    }

    static WireWalkers told(String walkers, String routine) {
        WireWalkers x = new WireWalkers();
        tell(x, 0, walkers);
        tell(x, 1, routine);
        return x;
    }

    static void tell(WireWalkers x, int text, String bytes) {
        for (int k = 0; k < bytes.length(); k++) {
            x.type(text, bytes.charAt(k));
        }
    }

    /** Wire with LENGTH, SLACK and LIMIT. */
    static WireWalkers wired(String walkers, String routine, int length, int slack, int limit) {
        WireWalkers x = told(walkers, routine);
        x.wire(0, length);
        x.wire(1, slack);
        x.wire(2, limit);
        return x;
    }

    /** One to six walkers, most of them early. */
    static String walkersByChance(Random random) {
        StringBuilder walkers = new StringBuilder();
        for (int w = random.nextInt(6); w >= 0; w--) {
            walkers.append((char) ('a' + random.nextInt(random.nextInt(8) == 0 ? 24 : 6)));
            walkers.append("sbo".charAt(random.nextInt(3))).append(random.nextInt(10)).append(w > 0 ? ";" : "");
        }
        return walkers.toString();
    }

    static String routineByChance(Random random) {
        StringBuilder routine = new StringBuilder();
        for (int k = random.nextInt(24); k > 0; k--) {
            routine.append("fffwlr".charAt(random.nextInt(6)));
        }
        return routine.toString();
    }

    /** All that an object shows without a finding: what a refusal must leave as it was. */
    static long state(WireWalkers x) {
        long h = x.digest();
        for (int what = 0; what <= 8; what++) {
            h = 37 * h + x.count(what);
        }
        return h;
    }
}
