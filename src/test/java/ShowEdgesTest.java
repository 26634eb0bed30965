/** Promises 1, 8 to 10, 12 to 19 and the terms of a show: each sentence with an edge has a test of its own. */
public final class ShowEdgesTest {
    private static final int NONE = -1, BAD = -2, NOT = -3, FULL = -4;
    private static final int LEAST = Integer.MIN_VALUE, MOST = Integer.MAX_VALUE;
    private static final int GUST = 0, DROP = 1, CHEER = 2;
    private static final int OFF = 0, ON = 1, OVER = 2, FELL = 3;
    private static final int[] NO_BEAT = {LEAST, -1, 24, 25, MOST};
    /** Who leans to the left first gets over the longest wire, in the last beat, leaning 18 ahead of the end. */
    private static final String FAR_WALKER = "ab9", FAR_ROUTINE = "lll";

    public static void main(String[] args) {
        aNewObject();
        wireTakesItsBounds();
        lengthIs5To40();
        nobodyGoesFarther();
        slackIs0To9();
        limitIs3To20();
        eightEventsAtMost();
        eventTakesItsBounds();
        backTakesTheLast();
        gustsByOddAndEven();
        gustsOnThoseOnTheWire();
        gustsInTheFirstAndTheLastBeat();
        eventsAreDoneAsTold();
        dropsOfEachNumber();
        dropsFromThenOn();
        cheersWhateverTheNumber();
        swaysIfAnybodyWentOn();
        swaysByWhoeverWentOn();
        swaysThoseWhoAreOnIt();
        swaysToBothSides();
        theFarthestFirst();
        boldOnesByTwo();
        whoGoesNoneIsBlocked();
        waitingComesNearerToZero();
        aThirdOfThePole();
        whoLeansLeansMore();
        overIsSoFirst();
        fallsForGood();
        startsByNumbers();
        startsInTheLastBeat();
        aFallFreesPlaceZero();
        own();
        atTakesItsBounds();
        leanTakesItsBounds();
        seesTakesItsBounds();
        swayTakesItsBounds();
        endsTakesItsBounds();
        sumTakesItsBounds();
        firstOfLikeOnes();
        worstOfLikeOnes();
        bareBeats();
        Check.finish();
    }

    private static void due(String call, long got, long want) {
        Check.due(call, got, want);
    }

    private static WireWalkers still(String walkers, String routine, int length, int limit) {
        return Check.wired(walkers, routine, length, 0, limit);
    }

    private static void places(String what, WireWalkers x, int walker, int... want) {
        for (int beat = 0; beat < want.length; beat++) {
            due(what + ": at(" + beat + ", " + walker + ", 1)", x.at(beat, walker, 1), want[beat]);
        }
    }

    private static void leans(String what, WireWalkers x, int walker, int... want) {
        for (int beat = 0; beat < want.length; beat++) {
            due(what + ": lean(" + beat + ", " + walker + ")", x.lean(beat, walker), want[beat]);
        }
    }

    /** "No WALKERS, no ROUTINE told, LENGTH 20, SLACK 2, LIMIT 8, no EVENTS; all SHEETS are LOST." */
    private static void aNewObject() {
        WireWalkers x = new WireWalkers();
        due("no walkers", x.count(0), 0);
        due("no routine", x.count(1), 0);
        due("no bytes", x.count(2), 0);
        due("no events", x.count(3), 0);
        due("no events", x.back(), NOT);
        due("nothing seen", x.forget(), 0);
        due("no finding", x.count(8), 0);
        due("LENGTH", x.wire(0, 5), 20);
        due("SLACK", x.wire(1, 0), 2);
        due("LIMIT", x.wire(2, 3), 8);
        for (int s = 0; s < 4; s++) {
            due("sheet " + s, x.get(s, 0, 0), LEAST);
            due("is lost", x.count(8), 1);
            due("sheet " + s, x.lose(s), -11);
        }
        WireWalkers twenty = Check.told("as0", "");
        due("not over yet", twenty.at(19, 0, 0), ON);
        due("over at 20", twenty.at(20, 0, 0), OVER);
        due("half of SLACK 2", twenty.sway(2), 1);
        WireWalkers eight = Check.told("ao6", "r");
        leans("LIMIT 8", eight, 0, 0, 5, 6, 6, 8);
        due("6 is less", eight.at(3, 0, 0), ON);
        due("8 is enough", eight.at(4, 0, 0), FELL);
    }

    /** "LENGTH is (what = 0) 5 to 40, SLACK is (1) 0 to 9, LIMIT is (2) 3 to 20: what it was. BAD." */
    private static void wireTakesItsBounds() {
        int[][] bounds = {{5, 40, 20}, {0, 9, 2}, {3, 20, 8}};
        for (int what = 0; what <= 2; what++) {
            WireWalkers x = new WireWalkers();
            int least = bounds[what][0];
            int most = bounds[what][1];
            for (int v : new int[] {LEAST, -1, least - 1, most + 1, MOST}) {
                due("wire(" + what + ", " + v + ")", x.wire(what, v), BAD);
            }
            due("as at first", x.count(4 + what), bounds[what][2]);
            int was = bounds[what][2];
            for (int v = least; v <= most; v++) {
                due("wire(" + what + ", " + v + ")", x.wire(what, v), was);
                due("is " + v, x.count(4 + what), v);
                was = v;
            }
            for (int other = 0; other <= 2; other++) {
                due("another one", x.count(4 + other), other == what ? most : bounds[other][2]);
            }
        }
        WireWalkers x = new WireWalkers();
        for (int what : new int[] {LEAST, -1, 3, 4, MOST}) {
            due("wire(" + what + ", 5)", x.wire(what, 5), BAD);
        }
    }

    /** "at the PLACE that is LENGTH (5 to 40, 20 at first) one is OVER" */
    private static void lengthIs5To40() {
        for (int length = 5; length <= 23; length++) {
            WireWalkers x = still("as0", "", length, 8);
            due("on ahead of " + length, x.at(length - 1, 0, 0), ON);
            due("over at " + length, x.at(length, 0, 0), OVER);
            due("over in " + length, x.ends(0, 0), length);
            due("for good", x.at(23, 0, 1), length);
            due("by so many", x.sum(2), length);
        }
        due("24 is too far", still("as0", "", 24, 8).at(23, 0, 1), 23);
        due("24 is too far", still("as0", "", 24, 8).sum(0), 0);
        WireWalkers far = still(FAR_WALKER, FAR_ROUTINE, 40, 20);
        due("on yet", far.at(22, 0, 0), ON);
        due("at 38", far.sees(22, 38), 0);
        due("leans", far.lean(22, 0), 15);
        due("over in the last beat", far.ends(0, 0), 23);
        due("at 40", far.at(23, 0, 1), 40);
        due("not on the wire", far.sees(23, 40), NONE);
        due("40 places", far.sum(2), 40);
        due("one is over", far.sum(0), 1);
        far.event(CHEER, 22, 0);
        due("cheered to 39", far.sees(22, 39), 0);
    }

    /** "one is OVER, and goes no farther" */
    private static void nobodyGoesFarther() {
        WireWalkers x = still("ab0", "", 5, 20);
        x.event(CHEER, 3, 0);
        places("one place of three", x, 0, 0, 2, 4, 5, 5, 5);
        due("five places in all", x.sum(2), 5);
        due("over once", x.ends(0, 0), 3);
        WireWalkers y = still("ab0;ab0;ab0", "", 6, 20);
        places("over does not block", y, 1, NONE, 0, 2, 4, 6);
        places("over does not block", y, 2, NONE, NONE, 0, 2, 4, 6);
        due("18 places in all", y.sum(2), 18);
        due("nobody blocked", y.ends(1, 1) + y.ends(2, 1), 0);
    }

    /** "SLACK is 0 to 9 (2 at first)"; "by half of SLACK, cut" */
    private static void slackIs0To9() {
        int[] half = {0, 0, 1, 1, 2, 2, 3, 3, 4, 4};
        for (int slack = 0; slack <= 9; slack++) {
            WireWalkers x = Check.wired("as0", "", 40, slack, 20);
            due("SLACK " + slack + " to the right", x.sway(2), half[slack]);
            due("SLACK " + slack + " to the left", x.sway(3), -half[slack]);
            due("SLACK " + slack + " leans", x.lean(2, 0), half[slack] > 2 ? half[slack] + 1 : half[slack]);
        }
    }

    /** "LIMIT 3 to 20 (8 at first)"; "who LEANS by LIMIT or more, either way, FALLS" */
    private static void limitIs3To20() {
        for (int limit = 4; limit <= 20; limit++) {
            for (int side = 0; side <= 1; side++) {
                int way = side == 1 ? 1 : -1;
                WireWalkers x = still("as0", "", 40, limit);
                x.event(GUST, 2, side);
                int fall = limit - 2;
                due("LIMIT " + limit + ": one less", x.lean(fall - 1, 0), limit == 4 ? 0 : way * (limit - 1));
                due("LIMIT " + limit + ": on", x.at(fall - 1, 0, 0), ON);
                due("LIMIT " + limit + ": fell", x.at(fall, 0, 0), FELL);
                due("LIMIT " + limit + ": by it", x.lean(fall, 0), way * limit);
                due("LIMIT " + limit + ": in", x.ends(0, 0), fall);
            }
        }
        WireWalkers three = still("ao3", "r", 40, 3);
        due("by more than LIMIT", three.at(1, 0, 0), FELL);
        due("by 4", three.lean(1, 0), 4);
        due("by 3", still("ao2", "r", 40, 3).at(1, 0, 0), FELL);
        due("by 2", still("ab2", "r", 40, 3).at(1, 0, 0), ON);
    }

    /** "EVENTS, 8 at most (0 on)"; "An EVENT more: how many. BAD; FULL." */
    private static void eightEventsAtMost() {
        WireWalkers x = still("as0", "", 40, 20);
        for (int k = 1; k <= 8; k++) {
            due("event " + k, x.event(GUST, 1, 1), k);
        }
        due("a ninth", x.event(GUST, 1, 1), FULL);
        due("a ninth", x.event(CHEER, 0, 0), FULL);
        due("BAD ahead of FULL", x.event(3, 0, 0), BAD);
        due("BAD ahead of FULL", x.event(0, 24, 0), BAD);
        due("BAD ahead of FULL", x.event(0, 0, 6), BAD);
        due("eight", x.count(3), 8);
        due("eight gusts", x.lean(1, 0), 25);
        due("seven", x.back(), 7);
        due("eight again", x.event(GUST, 1, 0), 8);
        due("seven against one", x.lean(1, 0), 19);
        due("a ninth", x.event(GUST, 1, 1), FULL);
    }

    /** "a kind, a BEAT, a number 0 to 5" */
    private static void eventTakesItsBounds() {
        for (int kind : new int[] {LEAST, -1, 3, 4, MOST}) {
            due("kind " + kind, new WireWalkers().event(kind, 0, 0), BAD);
        }
        for (int kind = 0; kind <= 2; kind++) {
            WireWalkers x = new WireWalkers();
            for (int beat : NO_BEAT) {
                due("beat " + beat, x.event(kind, beat, 0), BAD);
            }
            for (int number : new int[] {LEAST, -1, 6, 7, MOST}) {
                due("number " + number, x.event(kind, 0, number), BAD);
            }
            due("none came", x.count(3), 0);
            due("least", x.event(kind, 0, 0), 1);
            due("greatest", x.event(kind, 23, 5), 2);
        }
    }

    /** "The last EVENT is undone: how many are left. NOT: there is none." */
    private static void backTakesTheLast() {
        WireWalkers x = still("as0", "", 40, 20);
        due("none", x.back(), NOT);
        for (int k = 0; k < 8; k++) {
            x.event(GUST, 1, k < 4 ? 1 : 0);
        }
        int[] leaned = {4, 7, 10, 13, 10, 7, 4, 0};
        for (int left = 7; left >= 0; left--) {
            due("left", x.back(), left);
            due("leans by those left", x.lean(1, 0), left == 0 ? 0 : leaned[left - 1]);
        }
        due("none", x.back(), NOT);
        due("none", x.count(3), 0);
    }

    /** "0 a GUST in it, to the right, if the number is odd, else to the left"; "LEAN 3 more that way" */
    private static void gustsByOddAndEven() {
        for (int number = 0; number <= 5; number++) {
            WireWalkers x = still("as0;as0", "", 40, 20);
            x.event(GUST, 3, number);
            int way = number % 2 == 1 ? 1 : -1;
            due("gust " + number, x.lean(2, 0), 0);
            due("gust " + number, x.lean(3, 0), way * 4);
            due("gust " + number + " on all", x.lean(3, 1), way * 4);
        }
    }

    /** "by a GUST all who are on THE WIRE LEAN 3 more": not who starts in that BEAT, is OVER, or FELL */
    private static void gustsOnThoseOnTheWire() {
        WireWalkers x = still("cs0", "", 5, 20);
        x.event(GUST, 2, 1);
        leans("starts in it", x, 0, 0, 0, 0, 0, 0);
        x.event(GUST, 8, 1);
        leans("over ahead of it", x, 0, 0, 0, 0, 0, 0, 0, 0, 0, 0, 0);
        WireWalkers y = still("as0", "", 40, 4);
        y.event(GUST, 1, 1);
        y.event(GUST, 2, 1);
        leans("fell ahead of it", y, 0, 0, 4, 4, 4);
        due("fell in 1", y.ends(0, 0), 1);
        due("leaned by", y.ends(0, 2), 4);
    }

    /** EVENTS are in BEATS 0 to 23. */
    private static void gustsInTheFirstAndTheLastBeat() {
        WireWalkers x = still("as0", "", 40, 20);
        x.event(GUST, 0, 1);
        due("nobody is on in the first", x.ends(0, 2), 0);
        x.event(GUST, 23, 1);
        due("not yet", x.lean(22, 0), 0);
        due("in the last", x.lean(23, 0), 4);
        due("farthest", x.ends(0, 2), 4);
        x.wire(2, 4);
        due("falls in the last", x.ends(0, 0), 23);
        due("goes on first", x.at(23, 0, 1), 23);
    }

    /** "In a BEAT first its EVENTS are done, as told" */
    private static void eventsAreDoneAsTold() {
        WireWalkers x = still("as9", "r", 40, 20);
        x.event(GUST, 1, 1);
        x.event(DROP, 1, 0);
        due("gust 3, right 1, and 1", x.lean(1, 0), 5);
        x.event(GUST, 1, 0);
        due("both gusts", x.lean(1, 0), 1);
        WireWalkers each = still("as9;bs9", "fl", 40, 20);
        each.event(CHEER, 2, 0);
        each.event(DROP, 2, 0);
        each.event(GUST, 2, 1);
        each.event(DROP, 2, 1);
        due("gust 3, left 1", each.lean(2, 0), 2);
        due("gust 3, and 1; blocked for all the cheer", each.lean(2, 1) * 10 + each.at(2, 1, 1), 40);
        due("left 1 of 4, and 1", each.lean(3, 1), 4);
        WireWalkers late = still("as0", "", 40, 20);
        late.event(GUST, 5, 1);
        late.event(GUST, 3, 0);
        due("told later, done ahead", late.lean(3, 0), -4);
        due("told first, done behind", late.lean(5, 0), -2);
    }

    /** "1 that one of WALKERS DROPS the POLE in it", number 0 to 5 */
    private static void dropsOfEachNumber() {
        for (int dropped = 0; dropped <= 5; dropped++) {
            WireWalkers x = still("ao9;ao9;ao9;ao9;ao9;ao9", "l", 40, 20);
            x.event(DROP, 0, dropped);
            for (int w = 0; w <= 5; w++) {
                due(dropped + " drops: lean of " + w, x.lean(2 * w + 1, w), w == dropped ? -3 : -6);
                due("as told", x.walker(w, 2), 9);
            }
        }
        WireWalkers all = still("ao9;ao9;ao9;ao9;ao9;ao9", "l", 40, 20);
        for (int dropped = 0; dropped <= 5; dropped++) {
            all.event(DROP, 0, dropped);
            for (int w = 0; w <= 5; w++) {
                due("up to " + dropped + " drop in one beat: lean of " + w, all.lean(2 * w + 1, w), w <= dropped ? -3 : -6);
            }
        }
        WireWalkers one = still("ao9", "l", 40, 20);
        due("of one that there is not", one.event(DROP, 0, 5), 1);
        due("nothing comes of it", one.lean(1, 0), -6);
    }

    /** "it is 0 from then on" */
    private static void dropsFromThenOn() {
        for (int beat = 0; beat <= 23; beat++) {
            WireWalkers x = still("as9", "fwwl", 40, 20);
            x.event(DROP, beat, 0);
            due("dropped in " + beat, x.lean(4, 0), beat <= 4 ? -1 : -5);
        }
        WireWalkers twice = still("as9", "lfr", 40, 20);
        twice.event(DROP, 1, 0);
        twice.event(DROP, 3, 0);
        leans("dropped twice", twice, 0, 0, -1, -1, 0);
        WireWalkers none = still("as0", "l", 40, 20);
        none.event(DROP, 0, 0);
        due("none to drop", none.lean(1, 0), -1);
    }

    /** "2 a CHEER in it (whatever number is told)"; "by one more, if there is a CHEER (once, however often)" */
    private static void cheersWhateverTheNumber() {
        for (int number = 0; number <= 5; number++) {
            WireWalkers x = still("as9", "ffl", 40, 20);
            x.event(CHEER, 2, number);
            places("cheer " + number, x, 0, 0, 1, 3, 3, 4);
            due("leans by no gust, drops no pole", x.lean(3, 0), -5);
        }
        WireWalkers often = still("as0", "", 40, 20);
        for (int k = 0; k < 8; k++) {
            often.event(CHEER, 2, k % 6);
        }
        places("eight cheers", often, 0, 0, 1, 3, 4);
        WireWalkers last = still("as0", "", 24, 20);
        last.event(CHEER, 23, 0);
        due("cheered over in the last beat", last.ends(0, 0), 23);
        WireWalkers first = still("as0", "", 40, 20);
        first.event(CHEER, 0, 0);
        places("in the first nobody is on", first, 0, 0, 1, 2);
    }

    /** "Then THE WIRE SWAYS, if anybody went on by a PLACE in the BEAT ahead" */
    private static void swaysIfAnybodyWentOn() {
        WireWalkers x = Check.wired("as0", "", 5, 9, 20);
        int[] want = {0, 0, 4, -4, 4, -4, 4, 0, 0};
        for (int beat = 0; beat < want.length; beat++) {
            due("sway(" + beat + ")", x.sway(beat), want[beat]);
        }
        WireWalkers waits = Check.wired("as0;bs0", "fw", 40, 9, 20);
        due("waits and is blocked", waits.at(2, 0, 1) + waits.at(2, 1, 1), 1);
        due("went on in 1", waits.sway(2), 4);
        due("nobody in 2", waits.sway(3), 0);
        due("0 in 3", waits.sway(4), 4);
        WireWalkers nobody = new WireWalkers();
        WireWalkers late = Check.wired("xs0", "", 40, 9, 20);
        for (int beat = 0; beat < 24; beat++) {
            due("nobody: sway(" + beat + ")", nobody.sway(beat), 0);
            due("who starts goes by no place", late.sway(beat), 0);
        }
    }

    /** "if anybody went on": who fell in that BEAT, or all six, or by three PLACES; it sways by half of SLACK alike. */
    private static void swaysByWhoeverWentOn() {
        WireWalkers fell = Check.wired("as0", "", 40, 4, 3);
        fell.event(GUST, 2, 1);
        due("went on in 2, and fell", fell.at(2, 0, 1) * 10 + fell.at(2, 0, 0), 23);
        due("went on in 1", fell.sway(2), 2);
        due("went on in 2, though he fell", fell.sway(3), -2);
        due("fallen ones go nowhere", fell.sway(4), 0);
        WireWalkers six = Check.wired("as0;as0;as0;as0;as0;as0", "", 40, 4, 20);
        WireWalkers bold = Check.wired("ab0", "", 40, 4, 20);
        bold.event(CHEER, 2, 0);
        due("three places in 2", bold.at(2, 0, 1) - bold.at(1, 0, 1), 3);
        for (int beat = 2; beat <= 4; beat++) {
            due("several went on: sway(" + beat + ")", six.sway(beat), beat % 2 == 0 ? 2 : -2);
            due("by several places: sway(" + beat + ")", bold.sway(beat), beat % 2 == 0 ? 2 : -2);
        }
    }

    /** "all who are on it LEAN more": not who starts in that BEAT, is OVER, or FELL; whoever went on or not. */
    private static void swaysThoseWhoAreOnIt() {
        WireWalkers x = Check.wired("as0;cs0", "", 40, 9, 20);
        leans("starts in a beat of swaying", x, 1, 0, 0, 0, -5, -1);
        leans("is on it", x, 0, 0, 0, 5, 1, 6);
        WireWalkers over = Check.wired("as0;bs0", "", 5, 4, 20);
        due("sways when 0 is over", over.sway(6), 2);
        leans("over", over, 0, 0, 0, 2, 0, 2, 0, 0, 0);
        WireWalkers fell = Check.wired("as0;cs0", "", 40, 4, 6);
        fell.event(GUST, 2, 1);
        leans("fell", fell, 0, 0, 0, 6, 6, 6);
        due("sways by the other", fell.sway(4), 2);
        WireWalkers waits = Check.wired("as0;bs0", "fw", 40, 4, 20);
        due("0 waits, 1 is blocked", waits.at(2, 0, 1) * 10 + waits.at(2, 1, 1), 10);
        due("who waits is swayed first", waits.lean(2, 0), 1);
        due("who is blocked is swayed", waits.lean(2, 1), 2);
    }

    /** "to the right in BEATS 0, 2, 4 .., to the left in others" */
    private static void swaysToBothSides() {
        WireWalkers x = Check.wired("as0", "", 40, 4, 20);
        WireWalkers odd = Check.wired("bs0", "", 40, 4, 20);
        for (int beat = 0; beat < 24; beat++) {
            int way = beat % 2 == 0 ? 2 : -2;
            due("sway(" + beat + ")", x.sway(beat), beat < 2 ? 0 : way);
            due("later: sway(" + beat + ")", odd.sway(beat), beat < 3 ? 0 : way);
        }
        leans("right and left", x, 0, 0, 0, 2, 0, 2, 0);
        leans("left and right", odd, 0, 0, 0, 0, -2, 0, -2);
    }

    /** "those who are on THE WIRE, the farthest first": the place ahead is free again by then. */
    private static void theFarthestFirst() {
        WireWalkers x = still("bs0;as0;cs0", "", 40, 20);
        places("the second one is the farthest", x, 1, 0, 1, 2, 3, 4);
        places("the first one is behind", x, 0, NONE, 0, 1, 2, 3);
        places("the third one", x, 2, NONE, NONE, 0, 1, 2);
        due("nobody blocked", x.ends(0, 1) + x.ends(1, 1) + x.ends(2, 1), 0);
    }

    /** "a bold one by two, and by one more, if there is a CHEER, .. as long as nobody else is at the next one" */
    private static void boldOnesByTwo() {
        WireWalkers x = still("ab0", "", 40, 20);
        x.event(CHEER, 2, 0);
        places("two, three, two", x, 0, 0, 2, 5, 7);
        leans("by each place, and 1", x, 0, 0, 3, 7, 10);
        WireWalkers behind = still("as0;ab0", "", 40, 20);
        places("one of two", behind, 1, NONE, 0, 1, 2, 3);
        leans("by the one gone", behind, 1, 0, 0, 2, 4, 6);
        due("not blocked", behind.ends(1, 1), 0);
        WireWalkers gap = still("as0;cb0", "", 40, 20);
        places("two of two", gap, 1, NONE, NONE, 0, 2, 3);
        gap.event(CHEER, 3, 0);
        places("three of three", gap, 1, NONE, NONE, 0, 3, 4);
    }

    /** "who goes none is BLOCKED in that BEAT" */
    private static void whoGoesNoneIsBlocked() {
        WireWalkers x = still("as0;bs0", "fww", 40, 20);
        places("waits", x, 0, 0, 1, 1, 1, 2);
        places("blocked once, then waits", x, 1, NONE, 0, 0, 0, 0, 1);
        due("once", x.ends(1, 1), 1);
        due("waiting is none", x.ends(0, 1), 0);
        WireWalkers often = still("as0;bs0", "fwffwwwf", 40, 20);
        places("ahead", often, 0, 0, 1, 1, 2, 3, 3, 3, 3, 4);
        places("behind", often, 1, NONE, 0, 0, 0, 1, 2, 2, 2, 2);
        due("blocked in 2", often.ends(1, 1), 1);
        WireWalkers bold = still("as0;bb9", "fw", 40, 20);
        due("a bold one too", bold.ends(1, 1), 1);
        due("and leans by no place", bold.lean(2, 1), 0);
        bold.event(CHEER, 2, 0);
        due("for all the cheer", bold.ends(1, 1), 1);
        due("nobody is blocked by the end", still("as0", "", 5, 20).ends(0, 1), 0);
    }

    /** "Wait: LEAN comes nearer to 0 by 1, if it is not 0." */
    private static void waitingComesNearerToZero() {
        leans("from the right", still("as3", "rwww", 40, 20), 0, 0, 2, 1, 0, 0);
        leans("from the left", still("as3", "lwww", 40, 20), 0, 0, -2, -1, 0, 0);
        leans("at 0", still("ao9", "www", 40, 20), 0, 0, 0, 0, 0);
        leans("an old one gets no nearer", still("ao0", "rww", 40, 20), 0, 0, 3, 3, 3, 4);
        leans("a steady one above 2", still("as9", "lww", 40, 20), 0, 0, -5, -5, -5, -6);
    }

    /** "LEAN goes that way by 1 and a third of the POLE, cut; an old one's by 1 more" */
    private static void aThirdOfThePole() {
        int[][] want = {{1, 1, 1, 2, 2, 2, 4, 4, 4, 5}, {2, 2, 2, 3, 3, 3, 4, 4, 4, 5}, {3, 3, 3, 4, 4, 4, 5, 5, 5, 6}};
        for (int sort = 0; sort <= 2; sort++) {
            for (int pole = 0; pole <= 9; pole++) {
                String walker = "a" + "sbo".charAt(sort) + pole;
                due(walker + " to the right", still(walker, "r", 40, 20).lean(1, 0), want[sort][pole]);
                due(walker + " to the left", still(walker, "l", 40, 20).lean(1, 0), -want[sort][pole]);
            }
        }
    }

    /** "Then who LEANS at all LEANS 1 more that way, a steady one only by more than 2." */
    private static void whoLeansLeansMore() {
        leans("steady at 2", still("as3", "r", 40, 20), 0, 0, 2, 2, 2);
        leans("steady at -2", still("as3", "l", 40, 20), 0, 0, -2, -2, -2);
        leans("steady at 3", still("as0", "rrrf", 40, 20), 0, 0, 1, 2, 4, 5);
        leans("steady at -3", still("as0", "lllf", 40, 20), 0, 0, -1, -2, -4, -5);
        leans("old at 1", still("ao0", "rlw", 40, 20), 0, 0, 3, 2, 2, 3);
        leans("old at -1", still("ao0", "lrw", 40, 20), 0, 0, -3, -2, -2, -3);
        leans("bold at 0", still("ab3", "lf", 40, 20), 0, 0, -3, -2, 0, 3);
    }

    /** "FALLS, for good, unless one is OVER: who is OVER is so first, for good, and LEANS 0" */
    private static void overIsSoFirst() {
        WireWalkers x = still("as0", "", 5, 3);
        for (int k = 0; k < 8; k++) {
            x.event(GUST, 5, 1);
        }
        due("over for all gusts", x.at(5, 0, 0), OVER);
        due("leans 0", x.lean(5, 0), 0);
        due("nobody fell", x.sum(1), 0);
        due("never leaned behind a beat", x.ends(0, 2), 0);
        due("so nobody leaned farthest", x.who(1), NONE);
        due("for good", x.at(23, 0, 0), OVER);
        due("leans 0 for good", x.lean(23, 0), 0);
        x.wire(0, 6);
        due("one place more, and he falls", x.at(5, 0, 0), FELL);
        due("at 5", x.at(23, 0, 1), 5);
    }

    /** "FELL: where"; "FELL: as then" */
    private static void fallsForGood() {
        WireWalkers x = still("as0", "", 40, 5);
        x.event(GUST, 3, 0);
        x.event(GUST, 6, 1);
        leans("as then", x, 0, 0, 0, 0, -4, -5, -5, -5);
        places("where", x, 0, 0, 1, 2, 3, 4, 4, 4);
        for (int beat = 4; beat < 24; beat++) {
            due("for good", x.at(beat, 0, 0), FELL);
            due("nobody sees him", x.sees(beat, 4), NONE);
            due("he blocks nobody, sways nothing", x.sway(beat), 0);
        }
        WireWalkers y = still("as0;cs0", "", 40, 5);
        y.event(GUST, 1, 1);
        due("fell at 2", y.at(2, 0, 1), 2);
        places("goes through where he fell", y, 1, NONE, NONE, 0, 1, 2, 3);
        due("not blocked", y.ends(1, 1), 0);
    }

    /** "those whose BEAT it is, or was, and who are not on yet, start, by numbers" */
    private static void startsByNumbers() {
        WireWalkers x = still("as0;as0;as0;as0;as0;as0", "", 40, 20);
        for (int w = 0; w <= 5; w++) {
            for (int beat = 0; beat < 24; beat++) {
                due("place of " + w + " behind " + beat, x.at(beat, w, 1), beat < w ? NONE : beat - w);
                due("what " + w + " is behind " + beat, x.at(beat, w, 0), beat < w ? OFF : ON);
            }
        }
        WireWalkers late = still("cs0;bs0;as0", "ww", 40, 20);
        places("alone", late, 2, 0, 0, 0, 1);
        places("his beat was, and his number is less", late, 0, NONE, NONE, NONE, 0);
        places("waits for him", late, 1, NONE, NONE, NONE, NONE, NONE, NONE, 0);
    }

    /** BEAT 23 is the last. */
    private static void startsInTheLastBeat() {
        WireWalkers x = still("xs0;ws0", "", 40, 20);
        due("not on yet", x.at(22, 0, 0), OFF);
        due("no place yet", x.at(22, 0, 1), NONE);
        due("on", x.at(23, 0, 0), ON);
        due("at 0", x.at(23, 0, 1), 0);
        due("went on", x.at(23, 1, 1), 1);
        due("no end", x.ends(0, 0), NONE);
        WireWalkers never = still("xs0;xs0", "", 40, 20);
        due("waits for ever", never.at(23, 1, 0), OFF);
        due("no place", never.at(23, 1, 1), NONE);
        due("no lean", never.lean(23, 1), 0);
        due("no end", never.ends(1, 0), NONE);
        due("not blocked", never.ends(1, 1), 0);
        due("never leaned", never.ends(1, 2), 0);
        due("bare but for the last", never.bare(), 23);
    }

    /** "one comes to PLACE 0, if nobody is there" */
    private static void aFallFreesPlaceZero() {
        WireWalkers x = still("as0;as0", "www", 40, 5);
        x.event(GUST, 1, 1);
        x.event(GUST, 2, 1);
        leans("falls at 0", x, 0, 0, 2, 5, 5);
        due("fell", x.at(2, 0, 0), FELL);
        due("at 0", x.at(2, 0, 1), 0);
        due("waits", x.at(1, 1, 0), OFF);
        due("starts in the beat of the fall", x.at(2, 1, 0), ON);
        due("is seen there", x.sees(2, 0), 1);
        due("was seen there", x.sees(1, 0), 0);
    }

    /** "its own BEAT 0 is the next one" */
    private static void own() {
        WireWalkers x = still("cs9", "lwf", 40, 20);
        leans("in beat 3", x, 0, 0, 0, 0, -5, -5);
        WireWalkers last = still("as9", "wwwwwwwwwwwwwwwwwwwwwwr", 40, 20);
        due("own beat 22 is in 23", last.lean(23, 0), 5);
        due("not ahead", last.lean(22, 0), 0);
        WireWalkers never = still("as9", "wwwwwwwwwwwwwwwwwwwwwwwr", 40, 20);
        due("own beat 23 is never", never.lean(23, 0), 0);
    }

    /** "What one is (what = 0: 0 to 3), the PLACE (1; NONE). BAD." */
    private static void atTakesItsBounds() {
        WireWalkers x = still("as0;bs0", "", 5, 20);
        due("first beat", x.at(0, 0, 0), ON);
        due("last beat", x.at(23, 1, 0), OVER);
        for (int what : new int[] {LEAST, -1, 2, MOST}) {
            due("what " + what, x.at(0, 0, what), BAD);
        }
        for (int w : new int[] {LEAST, -1, 2, 5, 6, MOST}) {
            due("walker " + w, x.at(0, w, 0), BAD);
            due("walker " + w, x.at(0, w, 1), BAD);
        }
        for (int beat : NO_BEAT) {
            due("beat " + beat, x.at(beat, 0, 0), BAD);
            due("beat " + beat, x.at(beat, 0, 1), BAD);
        }
    }

    /** "LEAN. BAD: the least int." */
    private static void leanTakesItsBounds() {
        WireWalkers x = still("as9;bs0", "l", 40, 20);
        due("first beat", x.lean(0, 0), 0);
        due("last beat", x.lean(23, 1), -1);
        for (int w : new int[] {LEAST, -1, 2, 6, MOST}) {
            due("walker " + w, x.lean(0, w), LEAST);
        }
        for (int beat : NO_BEAT) {
            due("beat " + beat, x.lean(beat, 0), LEAST);
        }
        due("no finding", x.count(8), 0);
    }

    /** "Who is at a PLACE (0 to 40) behind it; NONE." */
    private static void seesTakesItsBounds() {
        WireWalkers x = still(FAR_WALKER, FAR_ROUTINE, 40, 20);
        due("place 0 behind beat 0", x.sees(0, 0), 0);
        due("place 40 behind beat 0", x.sees(0, 40), NONE);
        due("place 0 behind beat 23", x.sees(23, 0), NONE);
        for (int place : new int[] {LEAST, -1, 41, MOST}) {
            due("place " + place, x.sees(0, place), BAD);
        }
        for (int beat : NO_BEAT) {
            due("beat " + beat, x.sees(beat, 0), BAD);
        }
        WireWalkers six = still("as0;as0;as0;as0;as0;as0", "", 40, 20);
        for (int place = 0; place <= 40; place++) {
            due("six: place " + place, six.sees(23, place), place >= 18 && place <= 23 ? 23 - place : NONE);
        }
        due("a place above LENGTH", still("as0", "", 5, 20).sees(23, 40), NONE);
        due("nobody not on yet is at a place", still("xs0", "", 5, 20).sees(0, 0), NONE);
        due("nobody at all", new WireWalkers().sees(23, 40), NONE);
    }

    /** "By how much THE WIRE SWAYED. BAD: the least int." */
    private static void swayTakesItsBounds() {
        WireWalkers x = Check.wired("as0", "", 40, 5, 20);
        due("first beat", x.sway(0), 0);
        due("last beat", x.sway(23), -2);
        for (int beat : NO_BEAT) {
            due("beat " + beat, x.sway(beat), LEAST);
        }
        due("no finding", x.count(8), 0);
    }

    /** "The BEAT (what = 0; NONE), how often BLOCKED (1), how far LEANED (2). BAD." */
    private static void endsTakesItsBounds() {
        WireWalkers x = still("as0;bs9", "", 40, 20);
        int[] want = {NONE, 0, 0};
        for (int what = 0; what <= 2; what++) {
            due("ends(1, " + what + ")", x.ends(1, what), want[what]);
            for (int w : new int[] {LEAST, -1, 2, 6, MOST}) {
                due("walker " + w, x.ends(w, what), BAD);
            }
        }
        for (int what : new int[] {LEAST, -1, 3, MOST}) {
            due("what " + what, x.ends(0, what), BAD);
        }
        WireWalkers both = still("as9", "lrw", 40, 20);
        leans("left, then right", both, 0, 0, -5, -1, 0, 0);
        due("either way", both.ends(0, 2), 5);
        WireWalkers on = Check.wired("as0", "wwwwwwwww", 40, 0, 3);
        on.event(GUST, 1, 1);
        due("behind a beat, not in it", on.ends(0, 2), 2);
    }

    /** "SUM: OVER (what = 0), FELL (1), PLACES (2). BAD." */
    private static void sumTakesItsBounds() {
        for (int what = 0; what <= 2; what++) {
            due("nobody: sum(" + what + ")", new WireWalkers().sum(what), 0);
        }
        WireWalkers x = still("ab0;ab0;ab0;ab0;ab0;ab0", "", 5, 20);
        due("all over", x.sum(0), 6);
        due("none fell", x.sum(1), 0);
        due("all places", x.sum(2), 30);
        x.wire(2, 3);
        due("none over", x.sum(0), 0);
        due("all fell", x.sum(1), 6);
        due("places of the fallen too", x.sum(2), 12);
        for (int what : new int[] {LEAST, -1, 3, MOST}) {
            due("sum(" + what + ")", x.sum(what), BAD);
        }
    }

    /** "FIRST: who is OVER first, of like ones the least; NONE." */
    private static void firstOfLikeOnes() {
        due("nobody at all", new WireWalkers().who(0), NONE);
        due("nobody over", still("as0", "", 40, 20).who(0), NONE);
        due("the only one", still("xs0;xs0;xs0;xs0;xs0;as0", "", 5, 20).who(0), 5);
        due("the earliest", still("cs0;as0;bs0", "", 5, 20).who(0), 1);
        WireWalkers tie = still("bb0;ab0", "", 5, 20);
        tie.event(CHEER, 3, 0);
        due("both in 3", tie.ends(0, 0) * 100 + tie.ends(1, 0), 303);
        due("of like ones the least", tie.who(0), 0);
        WireWalkers last = still(FAR_WALKER, FAR_ROUTINE, 40, 20);
        due("in the last beat", last.who(0), 0);
        WireWalkers fell = still("as0;cs0", "", 10, 5);
        fell.event(GUST, 1, 1);
        due("who fell earlier is not over", fell.who(0), 1);
        for (int what : new int[] {LEAST, -1, 2, MOST}) {
            due("who(" + what + ")", fell.who(what), BAD);
        }
    }

    /** "WORST: who LEANED farthest, of like ones the least; NONE: nobody at all." */
    private static void worstOfLikeOnes() {
        due("nobody is there", new WireWalkers().who(1), NONE);
        due("nobody leaned at all", still("as0;bs0", "", 40, 20).who(1), NONE);
        due("by 1", still("as0", "r", 40, 20).who(1), 0);
        due("by -1", still("as0", "l", 40, 20).who(1), 0);
        due("of like ones the least", still("bs0;as0", "r", 40, 20).who(1), 0);
        due("the farthest, to the left", still("as0;cs9", "l", 40, 20).who(1), 1);
        due("the last of six", still("as0;as0;as0;as0;as0;as9", "l", 40, 20).who(1), 5);
    }

    /** "BARE: in how many BEATS, behind them, nobody is on THE WIRE." */
    private static void bareBeats() {
        due("nobody", new WireWalkers().bare(), 24);
        due("always one", still("as0", "", 40, 20).bare(), 0);
        due("over in 5", still("as0", "", 5, 20).bare(), 19);
        due("one behind another", still("as0;fs0", "", 5, 20).bare(), 14);
        due("a gap of one", still("as0;gs0", "", 5, 20).bare(), 14);
        due("in the last beat", still("xs0", "", 5, 20).bare(), 23);
        WireWalkers fell = still("as0", "", 40, 4);
        fell.event(GUST, 1, 1);
        due("fell in 1", fell.bare(), 23);
    }
}
