import java.math.BigInteger;

/** Promises 24 to 30, what was seen, chances, shows: each sentence with an edge has a test of its own. */
public final class SeenEdgesTest {
    private static final int NONE = -1, BAD = -2, FULL = -4;
    private static final int LEAST = Integer.MIN_VALUE, MOST = Integer.MAX_VALUE;
    private static final int GUST = 0, CHEER = 2;
    private static final int OFF = 0, ON = 1, OVER = 2, FELL = 3;
    private static final int[] NO_WHAT = {LEAST, -1, 2, MOST};

    public static void main(String[] args) {
        eightSeenAtMost();
        seenTakesItsBounds();
        seenOfOneThatThereIsNot();
        seenStandsWhateverIsTold();
        forgetTellsHowMany();
        neverWithoutEventsOrSeen();
        neverOfEight();
        neverEachAlone();
        polesAreBits0To9();
        sortsAreBits0To2();
        wasTakesItsBounds();
        askOfLikeOnes();
        askOfThreeGroups();
        askOfPoleNineAlone();
        askCountsEachPole();
        askInTheLastBeat();
        askOfNoPole();
        askOfAllWalkers();
        askTakesItsBounds();
        chanceInLowestTerms();
        chanceOfEightEvents();
        chanceOfNoEvents();
        chanceByTheLastBeat();
        chanceTakesItsBounds();
        lotsAre0To24();
        lotsWrap();
        showsAreInPlaceOfWhatIsTold();
        showsTakeTheirBounds();
        Check.finish();
    }

    private static void due(String call, long got, long want) {
        Check.due(call, got, want);
    }

    private static WireWalkers still(String walkers, String routine, int length, int limit) {
        return Check.wired(walkers, routine, length, 0, limit);
    }

    /** Gusts to the right, told one by one. */
    private static WireWalkers gusty(WireWalkers x, int... beats) {
        for (int beat : beats) {
            x.event(GUST, beat, 1);
        }
        return x;
    }

    /** "SEEN, 8 at most"; "SEEN more: how many. BAD; FULL." */
    private static void eightSeenAtMost() {
        WireWalkers x = still("as0", "", 40, 20);
        for (int k = 1; k <= 8; k++) {
            due("seen " + k, x.seen(5, 0, ON), k);
        }
        due("a ninth", x.seen(5, 0, ON), FULL);
        due("a ninth", x.seen(0, 5, OFF), FULL);
        due("BAD ahead of FULL", x.seen(24, 0, 0), BAD);
        due("BAD ahead of FULL", x.seen(0, 6, 0), BAD);
        due("BAD ahead of FULL", x.seen(0, 0, 4), BAD);
        due("eight", x.count(7), 8);
        due("all come out so", x.was(0, 0), 1023);
        due("forgotten", x.forget(), 8);
        due("the first again", x.seen(5, 0, FELL), 1);
        WireWalkers last = still("as0", "", 40, 20);
        for (int k = 1; k <= 7; k++) {
            last.seen(5, 0, ON);
        }
        last.seen(5, 0, OVER);
        due("the eighth counts", last.was(0, 0), 0);
    }

    /** "behind a BEAT one of WALKERS (0 to 5) was 0 to 3" */
    private static void seenTakesItsBounds() {
        WireWalkers x = new WireWalkers();
        for (int far : new int[] {LEAST, -1, 24, MOST}) {
            due("beat " + far, x.seen(far, 0, 0), BAD);
        }
        for (int far : new int[] {LEAST, -1, 6, MOST}) {
            due("walker " + far, x.seen(0, far, 0), BAD);
        }
        for (int far : new int[] {LEAST, -1, 4, MOST}) {
            due("is " + far, x.seen(0, 0, far), BAD);
        }
        due("none came", x.count(7), 0);
        due("least", x.seen(0, 0, 0), 1);
        due("greatest", x.seen(23, 5, 3), 2);
    }

    /** "of one that there is not nothing ever comes out so" */
    private static void seenOfOneThatThereIsNot() {
        for (int walker = 1; walker <= 5; walker++) {
            for (int is = 0; is <= 3; is++) {
                WireWalkers x = gusty(still("as0", "", 40, 20), 3);
                due("taken", x.seen(0, walker, is), 1);
                due("never", x.never(), 0);
                due("poles", x.was(0, 0), 0);
                due("sorts", x.was(0, 1), 0);
                due("ask", x.ask(0), 0);
            }
        }
        WireWalkers six = still("as0;as0;as0;as0;as0;xs0", "", 40, 20);
        six.seen(23, 5, ON);
        due("the sixth is there", six.was(5, 0), 1023);
        six.wipe(0);
        Check.tell(six, 0, "as0;as0;as0;as0;as0");
        due("the sixth is not there", six.was(0, 0), 0);
    }

    private static void seenStandsWhateverIsTold() {
        WireWalkers x = new WireWalkers();
        x.seen(3, 0, ON);
        Check.tell(x, 0, "as0");
        due("told later", x.was(0, 0), 1023);
        x.wire(0, 5);
        x.event(GUST, 0, 0);
        due("on yet", x.never(), 1);
        x.wipe(0);
        due("seen yet", x.count(7), 1);
        due("nobody is there", x.never(), 0);
        Check.tell(x, 0, "ds0");
        due("starts in 3", x.was(0, 1), 7);
        x.wipe(0);
        Check.tell(x, 0, "es0");
        due("starts in 4", x.was(0, 1), 0);
    }

    /** "All SEEN are forgotten: how many." */
    private static void forgetTellsHowMany() {
        WireWalkers x = gusty(still("as0", "", 40, 20), 3);
        due("none", x.forget(), 0);
        x.seen(5, 0, OFF);
        due("can't be", x.never(), 0);
        due("one", x.forget(), 1);
        due("none", x.forget(), 0);
        due("none", x.count(7), 0);
        due("all can be", x.never(), 1);
    }

    /** "NEVER: EVENTS each of which, had it alone not been, makes all that was SEEN come out so, as bits." */
    private static void neverWithoutEventsOrSeen() {
        due("no events", new WireWalkers().never(), 0);
        due("no events, well seen", still("as0", "", 40, 20).never(), 0);
        WireWalkers x = new WireWalkers();
        for (int k = 0; k < 8; k++) {
            due("nothing seen, " + k + " events", x.never(), (1 << k) - 1);
            x.event(k % 3, 0, 0);
        }
        due("nothing seen, eight events", x.never(), 255);
    }

    private static void neverOfEight() {
        WireWalkers x = gusty(still("as0", "", 40, 4), 0, 0, 0, 0, 0, 0, 0, 3);
        due("he falls", x.sum(1), 1);
        x.seen(10, 0, ON);
        due("the last never was", x.never(), 128);
        x.forget();
        x.seen(10, 0, FELL);
        due("any but the last", x.never(), 127);
        WireWalkers y = gusty(still("as0", "", 40, 4), 3, 0, 0, 0, 0, 0, 0, 0);
        y.seen(23, 0, ON);
        due("the first never was", y.never(), 1);
    }

    /** "had it alone not been": two that would both have to be left out are none. */
    private static void neverEachAlone() {
        WireWalkers x = gusty(still("as0", "", 40, 4), 3, 5);
        x.seen(10, 0, ON);
        due("both would have to be", x.never(), 0);
        WireWalkers y = gusty(still("as0", "", 40, 4), 3);
        y.event(GUST, 3, 0);
        due("nobody falls", y.sum(1), 0);
        y.seen(10, 0, ON);
        due("as all was, but for one: he would have fallen", y.never(), 0);
        y.forget();
        y.seen(3, 0, FELL);
        due("either", y.never(), 3);
    }

    /** "POLES of one: 0 to 9, in place of one's own, likewise, as bits." */
    private static void polesAreBits0To9() {
        int[] limits = {3, 4, 5, 6};
        int[] fell = {0b1111000000, 0b1111000000, 0b1000000000, 0};
        for (int k = 0; k < limits.length; k++) {
            WireWalkers x = still("as5", "r", 40, limits[k]);
            due("nothing seen", x.was(0, 0), 1023);
            x.seen(1, 0, FELL);
            due("fell by LIMIT " + limits[k], x.was(0, 0), fell[k]);
            x.forget();
            x.seen(1, 0, ON);
            due("on by LIMIT " + limits[k], x.was(0, 0), 1023 - fell[k]);
            due("as told yet", x.walker(0, 2), 5);
        }
    }

    /** "SORT of one: 0 s, 1 b, 2 o, in place of one's own, likewise, as bits." */
    private static void sortsAreBits0To2() {
        WireWalkers x = still("as0", "", 5, 20);
        due("nothing seen", x.was(0, 1), 7);
        x.seen(3, 0, OVER);
        due("bold", x.was(0, 1), 2);
        x.forget();
        x.seen(3, 0, ON);
        due("not bold", x.was(0, 1), 5);
        WireWalkers old = still("ab0", "r", 40, 3);
        old.seen(1, 0, FELL);
        due("old", old.was(0, 1), 4);
        WireWalkers steady = still("ao0", "rf", 40, 3);
        steady.seen(2, 0, ON);
        due("steady", steady.was(0, 1), 1);
        steady.seen(2, 0, FELL);
        due("none can be both", steady.was(0, 1), 0);
        due("as told yet", steady.walker(0, 1), 2);
        WireWalkers gust = gusty(still("ab0", "", 40, 4), 1);
        gust.seen(1, 0, ON);
        due("with its events: all fall", gust.was(0, 1), 0);
        due("with its events: all fall", gust.was(0, 0), 0);
    }

    /** "POLES (what = 0), SORT (1), as bits. BAD." */
    private static void wasTakesItsBounds() {
        WireWalkers x = still("as0;bs0", "", 5, 20);
        for (int w : new int[] {LEAST, -1, 2, 6, MOST}) {
            due("was(" + w + ", 0)", x.was(w, 0), BAD);
            due("was(" + w + ", 1)", x.was(w, 1), BAD);
        }
        for (int what : NO_WHAT) {
            due("was(0, " + what + ")", x.was(0, what), BAD);
        }
        due("the last one", x.was(1, 0), 1023);
        due("nobody", new WireWalkers().was(0, 0), BAD);
    }

    /** "the BEAT behind which the greatest number .. is least, of like ones the least" */
    private static void askOfLikeOnes() {
        due("all alike in all beats", still("as0", "", 40, 20).ask(0), 0);
        WireWalkers x = gusty(still("as0", "fffl", 40, 8), 3);
        due("poles 0 to 2 fall in 8, and are behind in 9", x.ask(0), 9);
        x.seen(9, 0, FELL);
        due("poles 0 to 2 are left, all alike", x.ask(0), 0);
        x.forget();
        x.seen(9, 0, ON);
        due("poles 3 to 9 are left, all alike", x.ask(0), 0);
        x.forget();
        WireWalkers one = still("as0", "r", 40, 5);
        one.seen(1, 0, FELL);
        due("pole 9 alone is left", one.was(0, 0), 512);
        due("one is like itself in all beats", one.ask(0), 0);
    }

    /** "the greatest number of those": poles 0 to 2 fall in 8, 3 to 5 in 9, the others go on. */
    private static void askOfThreeGroups() {
        WireWalkers x = gusty(still("as0", "ffffl", 40, 8), 3);
        due("seven alike behind 9, four behind 10", x.ask(0), 10);
        x.seen(9, 0, FELL);
        due("0 to 5 are left, three alike behind 9", x.was(0, 0), 63);
        due("0 to 5 are left, three alike behind 9", x.ask(0), 9);
        WireWalkers four = gusty(still("as0", "fffffl", 40, 8), 3);
        due("0 to 2 fall in 8, 3 to 5 in 9, 6 to 8 in 10", four.ask(0), 11);
    }

    /** Nine alike are less than ten. */
    private static void askOfPoleNineAlone() {
        WireWalkers x = still("as0", "lr", 40, 5);
        due("9 falls in 1, the others go on in 3", x.ask(0), 3);
        x.seen(1, 0, FELL);
        due("9 alone is left", x.ask(0), 0);
    }

    /** Shows found by a search: each pole counts, and each place up to 40. */
    private static void askCountsEachPole() {
        due("pole 0 counts", Check.wired("cs0", "rwllfffffr", 20, 5, 10).ask(0), 20);
        WireWalkers far = Check.wired("ds8;ab9", "lfffwlwflf", 38, 1, 16);
        far.event(CHEER, 5, 2);
        due("places above 31", far.ask(0), 21);
    }

    /** BEATS are 0 to 23: who fell in 22 is behind in 23, who fell in 23 never is. */
    private static void askInTheLastBeat() {
        due("fell in 22", gusty(still("os0", "fffl", 40, 8), 17).ask(0), 23);
        due("fell in 23", gusty(still("ps0", "fffl", 40, 8), 18).ask(0), 0);
    }

    private static void askOfNoPole() {
        WireWalkers x = gusty(still("as0", "fffl", 40, 8), 3);
        x.seen(9, 0, OFF);
        due("no pole", x.was(0, 0), 0);
        due("all beats are alike", x.ask(0), 0);
    }

    /** "by which all are at the like PLACES": 1 is at another place, if 0 fell and does not block him. */
    private static void askOfAllWalkers() {
        WireWalkers x = still("as0;bs0", "rwwwwwwwwwwwwwwwwwwwwwww", 40, 4);
        due("as told 0 stays at 0 (with pole 6 he would fall in 1)", x.ends(0, 0), NONE);
        due("1 waits for 0, or starts in 1", x.ask(0), 1);
        due("of 1 it does not matter", x.ask(1), 0);
        WireWalkers late = gusty(still("as0;xs0", "fffl", 40, 8), 3);
        due("another is not on yet", late.ask(0), 9);
    }

    private static void askTakesItsBounds() {
        WireWalkers x = still("as0;bs0", "", 5, 20);
        for (int w : new int[] {LEAST, -1, 2, 6, MOST}) {
            due("ask(" + w + ")", x.ask(w), BAD);
        }
        due("the last one", x.ask(1), 0);
        due("nobody", new WireWalkers().ask(0), BAD);
    }

    private static void chances(String what, WireWalkers x, int c, int walker, long above, long below) {
        due(what + ": chance(" + c + ") above", x.chance(c, walker, 0), above);
        due(what + ": chance(" + c + ") below", x.chance(c, walker, 1), below);
    }

    /** "each of EVENTS is by c sixteenths (0 to 16)"; "FRACTIONS are told in lowest terms (0 by 1)" */
    private static void chanceInLowestTerms() {
        int[] above = {1, 15, 7, 13, 3, 11, 5, 9, 1, 7, 3, 5, 1, 3, 1, 1, 0};
        int[] below = {1, 16, 8, 16, 4, 16, 8, 16, 2, 16, 8, 16, 4, 16, 8, 16, 1};
        WireWalkers falls = gusty(still("as0", "", 10, 4), 3);
        WireWalkers needs = still("as0", "", 24, 20);
        needs.event(CHEER, 3, 0);
        for (int c = 0; c <= 16; c++) {
            chances("over without it", falls, c, 0, above[c], below[c]);
            chances("over by it", needs, c, 0, above[16 - c], below[16 - c]);
        }
    }

    /** Eight by themselves: all of them, or none. 16 to the eighth is above what an int holds. */
    private static void chanceOfEightEvents() {
        WireWalkers falls = gusty(still("as0", "", 10, 4), 3, 3, 4, 4, 5, 5, 6, 7);
        WireWalkers needs = still("as0", "", 31, 20);
        for (int beat = 1; beat <= 8; beat++) {
            needs.event(CHEER, beat, 0);
        }
        for (int c = 0; c <= 16; c++) {
            BigInteger all = BigInteger.valueOf(c).pow(8);
            BigInteger below = BigInteger.valueOf(16).pow(8);
            BigInteger like = all.gcd(below);
            chances("all eight", needs, c, 0, all.divide(like).longValue(), below.divide(like).longValue());
            chances("none of eight", falls, 16 - c, 0, all.divide(like).longValue(), below.divide(like).longValue());
        }
        chances("all eight", needs, 1, 0, 1, 4294967296L);
        chances("all eight", needs, 15, 0, 2562890625L, 4294967296L);
        WireWalkers seven = still("as0", "", 30, 20);
        for (int beat = 1; beat <= 8; beat++) {
            seven.event(CHEER, beat, 0);
        }
        chances("seven of eight at least", seven, 8, 0, 9, 256);
        chances("seven of eight at least", seven, 16, 0, 1, 1);
    }

    private static void chanceOfNoEvents() {
        WireWalkers x = still("as0;xs0", "", 10, 20);
        for (int c = 0; c <= 16; c++) {
            chances("over anyhow", x, c, 0, 1, 1);
            chances("never over", x, c, 1, 0, 1);
        }
        WireWalkers six = still("as0;as0;as0;as0;as0;as0", "", 23, 20);
        for (int w = 0; w <= 5; w++) {
            chances("only the first gets there", six, 5, w, w == 0 ? 1 : 0, 1);
        }
        six.wire(0, 20);
        for (int w = 0; w <= 5; w++) {
            chances("four get there", six, 5, w, w <= 3 ? 1 : 0, 1);
        }
        WireWalkers last = gusty(still("as0;as0;as0;as0;as0;gs0", "", 5, 4), 4);
        for (int w = 0; w <= 5; w++) {
            chances("the gust takes those who are on by then", last, 8, w, 1, w <= 3 ? 2 : 1);
        }
    }

    /** "the chance that one is OVER by BEAT 23" */
    private static void chanceByTheLastBeat() {
        chances("over in 23", still("as0", "", 23, 20), 8, 0, 1, 1);
        chances("would be over in 24", still("as0", "", 24, 20), 8, 0, 0, 1);
        WireWalkers x = still("as0", "", 24, 20);
        x.event(CHEER, 23, 5);
        chances("cheered in 23", x, 8, 0, 1, 2);
        due("as told", x.sum(0), 1);
        x.back();
        chances("no cheer", x, 8, 0, 0, 1);
        x.wire(0, 23);
        chances("one place less", x, 8, 0, 1, 1);
        x.type(1, 'w');
        chances("a wait more", x, 8, 0, 0, 1);
    }

    /** "BAD. (As the least long.)"; "a refusal -x is the least long and x more" */
    private static void chanceTakesItsBounds() {
        WireWalkers x = still("as0;bs0", "", 5, 20);
        for (int c : new int[] {LEAST, -1, 17, MOST}) {
            due("c " + c, x.chance(c, 0, 0), Long.MIN_VALUE + 2);
        }
        for (int w : new int[] {LEAST, -1, 2, 6, MOST}) {
            due("walker " + w, x.chance(0, w, 0), Long.MIN_VALUE + 2);
            due("walker " + w, x.chance(0, w, 1), Long.MIN_VALUE + 2);
        }
        for (int what : NO_WHAT) {
            due("what " + what, x.chance(0, 0, what), Long.MIN_VALUE + 2);
        }
        due("nobody", new WireWalkers().chance(0, 0, 0), Long.MIN_VALUE + 2);
        due("no finding", x.count(8), 0);
    }

    /** The document's LOTS of 4, with numbers of any size, cut to 32 bits by hand. */
    private static String lots(int seed, int n) {
        BigInteger at = BigInteger.valueOf(seed);
        BigInteger ring = BigInteger.ONE.shiftLeft(32);
        StringBuilder routine = new StringBuilder();
        for (int k = 0; k < n; k++) {
            at = at.multiply(BigInteger.valueOf(1103515245)).add(BigInteger.valueOf(12345)).mod(ring);
            routine.append("fwlr".charAt(at.shiftRight(16).mod(BigInteger.valueOf(4)).intValue()));
        }
        return routine.toString();
    }

    private static int forwards(String routine) {
        int many = 23;
        for (int k = 0; k < routine.length() && k < 23; k++) {
            many -= routine.charAt(k) == 'f' ? 0 : 1;
        }
        return many;
    }

    /** "n LOTS of 4 (0 to 24) are THE ROUTINE (.. f on later ones)" */
    private static void lotsAre0To24() {
        WireWalkers x = still("as0", "llll", 40, 20);
        due("no lots: all forward", x.shows(7, 0, 1), 23);
        for (int n = 0; n <= 24; n++) {
            WireWalkers told = still("as0", lots(7, n), 40, 20);
            due(n + " lots: places", x.shows(7, n, 1), told.sum(2));
            due(n + " lots: over", x.shows(7, n, 0), 0);
        }
        WireWalkers near = still("as0", "", 5, 20);
        for (int n = 0; n <= 24; n++) {
            WireWalkers told = still("as0", lots(2, n), 5, 20);
            due(n + " lots: over", near.shows(2, n, 0), told.sum(0));
            due(n + " lots: places", near.shows(2, n, 1), told.sum(2));
        }
        due("nobody", new WireWalkers().shows(7, 24, 1), 0);
    }

    /** "SEED becomes 1103515245 SEED and 12345, as ints that wrap; its upper 16 bits as a number from 0 on" */
    private static void lotsWrap() {
        for (int seed : new int[] {LEAST, LEAST + 1, -65536, -2, -1, 0, 1, 2, 65535, 1 << 30, MOST - 1, MOST}) {
            WireWalkers x = still("as0", "", 40, 20);
            for (int n = 1; n <= 24; n++) {
                WireWalkers told = still("as0", lots(seed, n), 40, 20);
                due("seed " + seed + ", " + n + " lots", x.shows(seed, n, 1), told.sum(2));
            }
        }
        due("the first lot of 0 is 0", forwards(lots(0, 1)), 23);
        due("so he goes on", still("as0", "", 40, 20).shows(0, 1, 1), 23);
    }

    private static void showsAreInPlaceOfWhatIsTold() {
        WireWalkers x = still("as9", "rrrrrrrrrrrrrrrrrrrrrrrr", 10, 8);
        due("told: falls", x.sum(1), 1);
        due("no lots: over", x.shows(1, 0, 0), 1);
        due("told yet", x.routine(23), 3);
        due("falls yet", x.sum(1), 1);
        x.type(1, '!');
        due("a routine with a fault is as none", x.shows(1, 0, 1), 10);
        WireWalkers events = still("as0", "", 24, 20);
        due("too far", events.shows(1, 0, 0), 0);
        events.event(CHEER, 3, 0);
        due("with its events", events.shows(1, 0, 0), 1);
        due("with its events", events.shows(1, 0, 1), 24);
    }

    /** "SHOWS: OVER (what = 0), PLACES (1). BAD." */
    private static void showsTakeTheirBounds() {
        WireWalkers x = still("as0", "", 5, 20);
        for (int n : new int[] {LEAST, -1, 25, MOST}) {
            due("n " + n, x.shows(0, n, 0), BAD);
            due("n " + n, x.shows(0, n, 1), BAD);
        }
        for (int what : NO_WHAT) {
            due("what " + what, x.shows(0, 0, what), BAD);
        }
    }
}
