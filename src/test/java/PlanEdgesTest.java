/** Promises 20 to 23, the plans: each sentence with an edge has a test of its own. */
public final class PlanEdgesTest {
    private static final int NONE = -1, BAD = -2;
    private static final int LEAST = Integer.MIN_VALUE, MOST = Integer.MAX_VALUE;
    private static final int GUST = 0, DROP = 1, CHEER = 2;
    private static final int[] NO_WHAT = {LEAST, -1, 2, MOST};

    public static void main(String[] args) {
        startIsTheLeastOfLikeOnes();
        startMayBeLate();
        startOfOneCountsAll();
        startTakesItsBounds();
        holdIs0To9();
        holdOfLikeOnes();
        holdTakesItsBounds();
        actIsEachOfFour();
        actAtTheFirstAndTheLastBeat();
        actIsForAll();
        actTakesItsBounds();
        spareNone();
        spareOne();
        spareTwo();
        spareTheLeastRow();
        spareNoMoreThanTwo();
        spareTakesItsBounds();
        plansLeaveWhatWasTold();
        Check.finish();
    }

    private static void due(String call, long got, long want) {
        Check.due(call, got, want);
    }

    private static WireWalkers still(String walkers, String routine, int length, int limit) {
        return Check.wired(walkers, routine, length, 0, limit);
    }

    /** Gusts to the right, told one by one. */
    private static WireWalkers gusty(WireWalkers x, int... beats) {
        for (int beat : beats) {
            x.event(GUST, beat, 1);
        }
        return x;
    }

    private static void starts(String what, WireWalkers x, int walker, int which, int many) {
        due(what + ": start which", x.start(walker, 0), which);
        due(what + ": start how many", x.start(walker, 1), many);
    }

    private static void holds(String what, WireWalkers x, int walker, int which, int many) {
        due(what + ": hold which", x.hold(walker, 0), which);
        due(what + ": hold how many", x.hold(walker, 1), many);
    }

    private static void acts(String what, WireWalkers x, int beat, int which, int many) {
        due(what + ": act which", x.act(beat, 0), which);
        due(what + ": act how many", x.act(beat, 1), many);
    }

    private static void spares(String what, WireWalkers x, int many, int first, int second) {
        due(what + ": spare(NONE)", x.spare(NONE), many);
        due(what + ": spare(0)", x.spare(0), first);
        due(what + ": spare(1)", x.spare(1), second);
    }

    /** "the BEAT, in place of one's own, by which most are OVER, of like ones the least" */
    private static void startIsTheLeastOfLikeOnes() {
        starts("all to 18 are alike", still("xs0", "", 5, 20), 0, 0, 1);
        starts("none is over by any", still("as0", "", 40, 20), 0, 0, 0);
        starts("0 alone will do", still("xs0", "", 23, 20), 0, 0, 1);
        starts("24 is too long", still("xs0", "", 24, 20), 0, 0, 0);
        starts("1 is the first to do", gusty(still("as0", "", 5, 4), 1), 0, 1, 1);
    }

    /** A steady one on the wire in a gust falls: the beats told leave no start but one. */
    private static void startMayBeLate() {
        starts("18 alone", gusty(still("as0", "", 5, 4), 3, 7, 11, 15, 18), 0, 18, 1);
        starts("not even 18", gusty(still("as0", "", 5, 4), 3, 7, 11, 15, 18, 22), 0, 0, 0);
        starts("over in the beat of the gust", gusty(still("as0", "", 5, 4), 3, 7, 11, 15, 18, 23), 0, 18, 1);
    }

    private static void startOfOneCountsAll() {
        WireWalkers six = still("as0;as0;as0;as0;as0;xs0", "", 5, 20);
        starts("the sixth", six, 5, 0, 6);
        starts("the first", six, 0, 0, 5);
        WireWalkers two = still("as0;as0", "", 23, 20);
        starts("who starts first is over", two, 0, 0, 1);
        starts("alone or not", two, 1, 0, 1);
    }

    /** "START: which (what = 0), how many (1). BAD." */
    private static void startTakesItsBounds() {
        WireWalkers x = still("as0;bs0", "", 5, 20);
        for (int w : new int[] {LEAST, -1, 2, 6, MOST}) {
            due("start(" + w + ", 0)", x.start(w, 0), BAD);
            due("start(" + w + ", 1)", x.start(w, 1), BAD);
        }
        for (int what : NO_WHAT) {
            due("start(0, " + what + ")", x.start(0, what), BAD);
        }
        due("nobody", new WireWalkers().start(0, 0), BAD);
    }

    /** "HOLD of one: the POLE (0 to 9), in place of one's own": a gust leaves a lean that one left has to mend. */
    private static void holdIs0To9() {
        holds("any", gusty(still("as9", "ffl", 20, 8), 3), 0, 0, 1);
        holds("3 at least", gusty(still("as9", "fffl", 20, 8), 3), 0, 3, 1);
        holds("6 at least", gusty(still("as0", "ffffl", 20, 8), 3), 0, 6, 1);
        holds("9 alone", gusty(still("as0", "fffffl", 20, 8), 3), 0, 9, 1);
        holds("not even 9", gusty(still("as0", "ffffffl", 20, 8), 3), 0, 0, 0);
    }

    private static void holdOfLikeOnes() {
        holds("0 is the least", still("as9", "", 5, 20), 0, 0, 1);
        WireWalkers x = gusty(still("as0", "fffffl", 20, 8), 3);
        x.event(DROP, 6, 0);
        holds("dropped ahead, whichever it is", x, 0, 0, 0);
        WireWalkers late = gusty(still("as0", "fffffl", 20, 8), 3);
        late.event(DROP, 7, 0);
        holds("dropped behind", late, 0, 9, 1);
        WireWalkers six = still("as0;as0;as0;as0;as0;as9", "", 5, 20);
        holds("how many of all", six, 5, 0, 6);
    }

    private static void holdTakesItsBounds() {
        WireWalkers x = still("as0;bs0", "", 5, 20);
        for (int w : new int[] {LEAST, -1, 2, 6, MOST}) {
            due("hold(" + w + ", 0)", x.hold(w, 0), BAD);
            due("hold(" + w + ", 1)", x.hold(w, 1), BAD);
        }
        for (int what : NO_WHAT) {
            due("hold(0, " + what + ")", x.hold(0, what), BAD);
        }
        due("nobody", new WireWalkers().hold(0, 0), BAD);
    }

    /** "what had better be done (0 f, 1 w, 2 l, 3 r), in place of what is told, likewise" */
    private static void actIsEachOfFour() {
        acts("f", still("as0", "rwlf", 5, 20), 1, 0, 1);
        acts("w", gusty(still("as0", "", 10, 8), 3), 2, 1, 1);
        acts("l", gusty(still("as3", "", 10, 8), 3), 3, 2, 1);
        WireWalkers x = still("as3", "", 10, 8);
        x.event(GUST, 3, 0);
        acts("r", x, 3, 3, 1);
        acts("none will do", gusty(still("as2", "", 10, 8), 3), 3, 0, 0);
        acts("nobody is there", new WireWalkers(), 3, 0, 0);
    }

    /** "ACT at a BEAT of one's own (0 to 23)": 0 is behind the start, 22 the last that is ever done. */
    private static void actAtTheFirstAndTheLastBeat() {
        acts("at 0", still("as0", "w", 23, 20), 0, 0, 1);
        acts("at 22", still("as0", "ffffffffffffffffffffffw", 23, 20), 22, 0, 1);
        acts("at 23, never done", still("as0", "ffffffffffffffffffffffww", 23, 20), 23, 0, 0);
        acts("at 23, never done", still("as0", "fffffffffffffffffffffffw", 23, 20), 23, 0, 1);
        acts("own beat 0 in beat 18", gusty(still("rs0", "", 5, 4), 18), 0, 1, 1);
        acts("own beat 0 in beat 19", gusty(still("ss0", "", 5, 4), 19), 0, 0, 0);
    }

    /** All do the routine: what is done at a beat is done by each. */
    private static void actIsForAll() {
        WireWalkers x = still("as0;bs0", "w", 22, 20);
        due("one as told", x.sum(0), 1);
        acts("f gets both over", x, 0, 0, 2);
        WireWalkers six = still("ab0;ab0;ab0;ab0;ab0;ab0", "", 5, 20);
        acts("all six", six, 0, 0, 6);
    }

    private static void actTakesItsBounds() {
        WireWalkers x = still("as0", "", 5, 20);
        for (int beat : new int[] {LEAST, -1, 24, MOST}) {
            due("act(" + beat + ", 0)", x.act(beat, 0), BAD);
            due("act(" + beat + ", 1)", x.act(beat, 1), BAD);
        }
        for (int what : NO_WHAT) {
            due("act(0, " + what + ")", x.act(0, what), BAD);
        }
    }

    /** "SPARE: the fewest EVENTS (0 to 2) that had better not be, so that nobody FALLS" */
    private static void spareNone() {
        spares("nobody, no events", new WireWalkers(), 0, NONE, NONE);
        spares("no events", still("as0", "", 10, 8), 0, NONE, NONE);
        WireWalkers x = still("as0", "", 10, 8);
        for (int k = 0; k < 8; k++) {
            x.event(GUST, 0, 1);
        }
        spares("eight that do nothing", x, 0, NONE, NONE);
        spares("falls without any", still("ab0", "", 40, 3), NONE, NONE, NONE);
    }

    private static void spareOne() {
        spares("the first", gusty(still("as0", "", 10, 8), 3, 0, 0), 1, 0, NONE);
        spares("the last of eight", gusty(still("as0", "", 10, 8), 0, 0, 0, 0, 0, 0, 0, 3), 1, 7, NONE);
        spares("of like ones the first", gusty(still("as0", "", 10, 8), 8, 8), 1, 0, NONE);
        WireWalkers x = still("as9", "fl", 10, 5);
        x.event(CHEER, 0, 0);
        x.event(DROP, 2, 0);
        x.event(GUST, 2, 1);
        x.event(GUST, 2, 1);
        spares("a pole that had better not be dropped", x, 1, 1, NONE);
    }

    private static void spareTwo() {
        spares("the first two", gusty(still("as0", "", 10, 8), 3, 3), 2, 0, 1);
        spares("the last two of eight", gusty(still("as0", "", 10, 8), 0, 0, 0, 0, 0, 0, 3, 3), 2, 6, 7);
        spares("the first and the last", gusty(still("as0", "", 10, 8), 3, 0, 0, 0, 0, 0, 0, 3), 2, 0, 7);
        spares("two of three alike", gusty(still("as0", "", 10, 8), 8, 8, 8), 2, 0, 1);
    }

    /** "of like ones the least row (each more than the one ahead)": 0, 3 is less than 1, 2. */
    private static void spareTheLeastRow() {
        WireWalkers x = still("as0;cs3", "", 12, 5);
        int[][] gusts = {{3, 1}, {1, 1}, {2, 0}, {4, 0}};
        for (int[] g : gusts) {
            x.event(GUST, g[0], g[1]);
        }
        spares("0 and 3", x, 2, 0, 3);
        WireWalkers y = still("as0;cs3", "", 12, 5);
        y.event(GUST, 3, 1);
        y.event(GUST, 4, 0);
        spares("1 and 2 would do too", y, 0, NONE, NONE);
    }

    private static void spareNoMoreThanTwo() {
        spares("three", gusty(still("as0", "", 10, 8), 3, 3, 3), NONE, NONE, NONE);
        spares("eight", gusty(still("as0", "", 10, 8), 3, 3, 3, 3, 3, 3, 3, 3), NONE, NONE, NONE);
    }

    /** "how many (i = NONE), the i-th (0, 1; NONE); NONE. BAD." */
    private static void spareTakesItsBounds() {
        WireWalkers x = gusty(still("as0", "", 10, 8), 3, 3);
        for (int i : new int[] {LEAST, -2, 2, 3, 8, MOST}) {
            due("spare(" + i + ")", x.spare(i), BAD);
        }
        due("spare(NONE)", x.spare(WireWalkers.NONE), 2);
    }

    /** Plans are asked for, not told: all stands as it did. */
    private static void plansLeaveWhatWasTold() {
        WireWalkers x = gusty(still("bs4;do7", "fwlr", 9, 6), 3, 5, 7);
        WireWalkers y = gusty(still("bs4;do7", "fwlr", 9, 6), 3, 5, 7);
        for (int w = 0; w < 2; w++) {
            x.start(w, 0);
            x.start(w, 1);
            x.hold(w, 0);
            x.hold(w, 1);
        }
        for (int beat = 0; beat < 24; beat++) {
            x.act(beat, 0);
            due("routine(" + beat + ")", x.routine(beat), y.routine(beat));
        }
        for (int i = -1; i <= 1; i++) {
            x.spare(i);
        }
        for (int w = 0; w < 2; w++) {
            for (int what = 0; what < 3; what++) {
                due("walker", x.walker(w, what), y.walker(w, what));
                due("ends", x.ends(w, what), y.ends(w, what));
            }
        }
        due("all", Check.state(x), Check.state(y));
    }
}
