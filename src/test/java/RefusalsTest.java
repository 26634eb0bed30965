import java.util.ArrayList;
import java.util.List;
import java.util.function.ToLongBiFunction;

/**
 * "Refusals, the first that fits, in the order told at each act .. They change nothing (FINDINGS but count() 8)."
 * Each refused call is made on one of two like objects; all that can be asked and undone must then be like.
 */
public final class RefusalsTest {
    private static final int BAD = -2, NOT = -3, FULL = -4;
    private static final int NULL = -11, INDEX = -12, CAST = -13, STORE = -14, SIZE = -15;
    private static final int LEAST = Integer.MIN_VALUE, MOST = Integer.MAX_VALUE;

    private interface Call {
        long on(WireWalkers x);
    }

    private interface Scene {
        WireWalkers made();
    }

    private static final Scene EMPTY = RefusalsTest::empty, USUAL = RefusalsTest::usual, FULL_SCENE = RefusalsTest::full;
    private static final Scene[] SCENES = {EMPTY, USUAL, FULL_SCENE};

    public static void main(String[] args) {
        ofTexts();
        ofTheWireAndEvents();
        ofBeats();
        ofPlans();
        ofSeen();
        ofChancesAndShows();
        ofSheets();
        ofItems();
        ofCopy();
        ofReadAndWrite();
        ofCount();
        findingsAreTheLatest();
        Check.finish();
    }

    // ---- scenes

    /** Nothing told: all sheets are lost. */
    private static WireWalkers empty() {
        return new WireWalkers();
    }

    /** Three walkers, three events, two seen; sheets of 5 bytes, 60 shorts, no ints, and one that is lost. */
    private static WireWalkers usual() {
        WireWalkers x = Check.wired("as6;bb3;co9", "fflfr", 9, 4, 11);
        x.event(0, 3, 1);
        x.event(1, 2, 1);
        x.event(2, 4, 0);
        x.seen(4, 0, 1);
        x.seen(1, 2, 0);
        x.sheet(0, 0, 5);
        for (int i = 0; i < 5; i++) {
            x.lay(0, 0, i, i + 1);
        }
        x.sheet(1, 1, 60);
        x.lay(1, 1, 0, 500);
        x.lay(1, 1, 59, -500);
        x.sheet(2, 2, 0);
        return x;
    }

    /** As full as can be, with a finding already. */
    private static WireWalkers full() {
        WireWalkers x = Check.wired("as6;ab3;bo9;cs0;eb9;xo2", "fflfrfwfflfflfrfwfflwlwr", 12, 3, 12);
        for (int k = 0; k < 8; k++) {
            x.event(k % 3, k + 1, k % 6);
            x.seen(k, k % 6, k < 3 ? 1 : 0);
        }
        for (int s = 0; s < 4; s++) {
            x.sheet(s, s % 3, 60);
            x.lay(s, s % 3, s, 100 + s);
        }
        x.copy(0, 0, 1, 0, 1);
        return x;
    }

    /** All but count() 8 that tells one state from another, asked until nothing is left to undo. */
    private static List<Long> all(WireWalkers x) {
        List<Long> told = new ArrayList<>();
        for (int what = 0; what <= 7; what++) {
            told.add((long) x.count(what));
        }
        told.add(x.digest());
        for (int s = 0; s < 4; s++) {
            for (int form = 0; form < 3; form++) {
                // No sheet has an item -1: the first answer is a finding, and hides those of earlier calls.
                for (int i : new int[] {-1, 0, 1, 3, 4, 5, 59}) {
                    told.add((long) x.get(s, form, i));
                    told.add((long) x.count(8));
                }
            }
            told.add((long) x.lose(s));
        }
        for (int k = 0; k <= 8; k++) {
            told.add((long) x.back());
            told.add(x.digest());
        }
        told.add((long) x.forget());
        for (int k = 0; k <= 24; k++) {
            told.add((long) x.fault(0));
            told.add((long) x.undo(0));
            told.add((long) x.count(0));
            told.add((long) x.undo(1));
        }
        told.add(x.digest());
        return told;
    }

    private static void refused(String what, Scene scene, long want, Call call) {
        WireWalkers x = scene.made();
        WireWalkers y = scene.made();
        int before = y.count(8);
        due(what, call.on(x), want);
        boolean finding = want <= NULL && want >= SIZE;
        due(what + ": count(8)", x.count(8), finding ? -10 - want : before);
        Check.holds(what + " changes nothing", all(x).equals(all(y)));
    }

    private static void due(String call, long got, long want) {
        Check.due(call, got, want);
    }

    /** Refused in each scene, for numbers below what is told and those above it. */
    private static void bad(String what, int above, ToLongBiFunction<WireWalkers, Integer> call) {
        bad(what, above, BAD, call);
    }

    private static void bad(String what, int above, long want, ToLongBiFunction<WireWalkers, Integer> call) {
        for (int far : new int[] {LEAST, -1, above, MOST}) {
            for (Scene scene : SCENES) {
                refused(what + " " + far, scene, want, x -> call.applyAsLong(x, far));
            }
        }
    }

    // ---- each act

    private static void ofTexts() {
        bad("type: text", 2, (x, v) -> x.type(v, 'a'));
        bad("type: byte", 256, (x, v) -> x.type(0, v));
        bad("type: byte", 256, (x, v) -> x.type(1, v));
        bad("wipe", 2, (x, v) -> x.wipe(v));
        bad("undo", 2, (x, v) -> x.undo(v));
        bad("fault", 2, (x, v) -> x.fault(v));
        bad("walker: walker", 6, (x, v) -> x.walker(v, 0));
        bad("walker: what", 3, (x, v) -> x.walker(0, v));
        bad("routine", 24, (x, v) -> x.routine(v));
        for (int text = 0; text <= 1; text++) {
            int t = text;
            refused("undo of an empty one", EMPTY, NOT, x -> x.undo(t));
            refused("type to a full one", FULL_SCENE, FULL, x -> x.type(t, 'a'));
            refused("type to a full one", FULL_SCENE, FULL, x -> x.type(t, 0));
        }
        refused("nobody told", EMPTY, BAD, x -> x.walker(0, 0));
        refused("nobody told", USUAL, BAD, x -> x.walker(3, 0));
    }

    private static void ofTheWireAndEvents() {
        int[][] bounds = {{5, 40}, {0, 9}, {3, 20}};
        for (int what = 0; what <= 2; what++) {
            for (int v : new int[] {LEAST, bounds[what][0] - 1, bounds[what][1] + 1, MOST}) {
                for (Scene scene : SCENES) {
                    int w = what;
                    refused("wire(" + what + ", " + v + ")", scene, BAD, x -> x.wire(w, v));
                }
            }
        }
        bad("wire: what", 3, (x, v) -> x.wire(v, 7));
        bad("event: kind", 3, (x, v) -> x.event(v, 0, 0));
        for (int kind = 0; kind <= 2; kind++) {
            int k = kind;
            bad("event: beat", 24, (x, v) -> x.event(k, v, 0));
            bad("event: number", 6, (x, v) -> x.event(k, 0, v));
            refused("event: full", FULL_SCENE, FULL, x -> x.event(k, 0, 0));
            refused("event: full", FULL_SCENE, FULL, x -> x.event(k, 23, 5));
        }
        refused("back", EMPTY, NOT, x -> x.back());
    }

    private static void ofBeats() {
        bad("at: beat", 24, (x, v) -> x.at(v, 0, 0));
        bad("at: walker", 6, (x, v) -> x.at(0, v, 0));
        bad("at: what", 2, (x, v) -> x.at(0, 0, v));
        bad("lean: beat", 24, LEAST, (x, v) -> x.lean(v, 0));
        bad("lean: walker", 6, LEAST, (x, v) -> x.lean(0, v));
        bad("sees: beat", 24, (x, v) -> x.sees(v, 0));
        bad("sees: place", 41, (x, v) -> x.sees(0, v));
        bad("sway", 24, LEAST, (x, v) -> x.sway(v));
        bad("ends: walker", 6, (x, v) -> x.ends(v, 0));
        bad("ends: what", 3, (x, v) -> x.ends(0, v));
        bad("sum", 3, (x, v) -> x.sum(v));
        bad("who", 2, (x, v) -> x.who(v));
        refused("at: nobody", USUAL, BAD, x -> x.at(0, 3, 0));
        refused("lean: nobody", USUAL, LEAST, x -> x.lean(0, 3));
        refused("ends: nobody", USUAL, BAD, x -> x.ends(3, 0));
    }

    private static void ofPlans() {
        bad("start: walker", 6, (x, v) -> x.start(v, 0));
        bad("start: what", 2, (x, v) -> x.start(0, v));
        bad("hold: walker", 6, (x, v) -> x.hold(v, 0));
        bad("hold: what", 2, (x, v) -> x.hold(0, v));
        bad("act: beat", 24, (x, v) -> x.act(v, 0));
        bad("act: what", 2, (x, v) -> x.act(0, v));
        for (Scene scene : SCENES) {
            for (int i : new int[] {LEAST, -2, 2, MOST}) {
                refused("spare(" + i + ")", scene, BAD, x -> x.spare(i));
            }
        }
        refused("start: nobody", USUAL, BAD, x -> x.start(3, 1));
        refused("hold: nobody", USUAL, BAD, x -> x.hold(3, 1));
    }

    private static void ofSeen() {
        bad("seen: beat", 24, (x, v) -> x.seen(v, 0, 0));
        bad("seen: walker", 6, (x, v) -> x.seen(0, v, 0));
        bad("seen: is", 4, (x, v) -> x.seen(0, 0, v));
        refused("seen: full", FULL_SCENE, FULL, x -> x.seen(0, 0, 0));
        refused("seen: full", FULL_SCENE, FULL, x -> x.seen(23, 5, 3));
        bad("was: walker", 6, (x, v) -> x.was(v, 0));
        bad("was: what", 2, (x, v) -> x.was(0, v));
        bad("ask", 6, (x, v) -> x.ask(v));
        refused("was: nobody", USUAL, BAD, x -> x.was(3, 1));
        refused("ask: nobody", USUAL, BAD, x -> x.ask(3));
    }

    private static void ofChancesAndShows() {
        bad("chance: c", 17, Check.LONG_BAD, (x, v) -> x.chance(v, 0, 0));
        bad("chance: walker", 6, Check.LONG_BAD, (x, v) -> x.chance(5, v, 0));
        bad("chance: what", 2, Check.LONG_BAD, (x, v) -> x.chance(5, 0, v));
        refused("chance: nobody", USUAL, Check.LONG_BAD, x -> x.chance(5, 3, 1));
        bad("shows: n", 25, (x, v) -> x.shows(7, v, 0));
        bad("shows: what", 2, (x, v) -> x.shows(7, 18, v));
    }

    private static void ofSheets() {
        bad("sheet: sheet", 4, (x, v) -> x.sheet(v, 0, 1));
        bad("sheet: form", 3, (x, v) -> x.sheet(0, v, 1));
        for (Scene scene : SCENES) {
            for (int s = 0; s <= 3; s++) {
                int sheet = s;
                refused("sheet: above 60", scene, BAD, x -> x.sheet(sheet, 0, 61));
                refused("sheet: above 60", scene, BAD, x -> x.sheet(sheet, 2, MOST));
                refused("sheet: SIZE", scene, SIZE, x -> x.sheet(sheet, 1, -1));
                refused("sheet: SIZE", scene, SIZE, x -> x.sheet(sheet, 0, LEAST));
            }
            refused("BAD ahead of SIZE: sheet", scene, BAD, x -> x.sheet(4, 0, -1));
            refused("BAD ahead of SIZE: form", scene, BAD, x -> x.sheet(0, 3, -1));
        }
        bad("lose", 4, (x, v) -> x.lose(v));
        refused("lose: NULL", EMPTY, NULL, x -> x.lose(0));
        refused("lose: NULL", USUAL, NULL, x -> x.lose(3));
    }

    private static void ofItems() {
        bad("lay: sheet", 4, (x, v) -> x.lay(v, 0, 0, 7));
        bad("lay: form", 3, (x, v) -> x.lay(0, v, 0, 7));
        bad("BAD ahead of NULL, CAST, INDEX", 3, (x, v) -> x.lay(3, v, -1, 7));
        bad("get: sheet", 4, LEAST, (x, v) -> x.get(v, 0, 0));
        bad("get: form", 3, LEAST, (x, v) -> x.get(0, v, 0));
        refused("lay: NULL", EMPTY, NULL, x -> x.lay(0, 0, 0, 7));
        refused("lay: NULL ahead of CAST, INDEX", USUAL, NULL, x -> x.lay(3, 2, -1, 7));
        refused("lay: CAST", USUAL, CAST, x -> x.lay(0, 1, 0, 7));
        refused("lay: CAST ahead of INDEX", USUAL, CAST, x -> x.lay(0, 2, 5, 7));
        refused("lay: CAST ahead of INDEX", USUAL, CAST, x -> x.lay(2, 0, 0, 7));
        refused("lay: INDEX", USUAL, INDEX, x -> x.lay(0, 0, 5, 7));
        refused("lay: INDEX", USUAL, INDEX, x -> x.lay(0, 0, -1, 7));
        refused("lay: INDEX", USUAL, INDEX, x -> x.lay(1, 1, 60, 7));
        refused("lay: INDEX", USUAL, INDEX, x -> x.lay(2, 2, 0, 7));
        refused("lay: INDEX", FULL_SCENE, INDEX, x -> x.lay(3, 0, MOST, 7));
        gets("NULL", EMPTY, 1, 0, 0, 0);
        gets("NULL ahead of CAST, INDEX", USUAL, 1, 3, 2, -1);
        gets("CAST", USUAL, 3, 0, 1, 0);
        gets("CAST ahead of INDEX", USUAL, 3, 0, 2, 5);
        gets("INDEX", USUAL, 2, 0, 0, 5);
        gets("INDEX", USUAL, 2, 1, 1, -1);
        gets("INDEX", FULL_SCENE, 2, 2, 2, 60);
    }

    /** get() tells its finding by count() 8 alone. */
    private static void gets(String what, Scene scene, int finding, int s, int form, int i) {
        WireWalkers x = scene.made();
        due("get: " + what, x.get(s, form, i), LEAST);
        due("get: " + what + ": count(8)", x.count(8), finding);
        Check.holds("get: " + what + " changes nothing", all(x).equals(all(scene.made())));
    }

    private static void ofCopy() {
        bad("copy: from", 4, (x, v) -> x.copy(v, 0, 0, 0, 1));
        bad("copy: to", 4, (x, v) -> x.copy(0, 0, v, 0, 1));
        bad("BAD ahead of NULL, INDEX", 4, (x, v) -> x.copy(3, -1, v, -1, -1));
        refused("copy: NULL", EMPTY, NULL, x -> x.copy(0, 0, 1, 0, 0));
        refused("copy: NULL s", USUAL, NULL, x -> x.copy(3, 0, 0, 0, 1));
        refused("copy: NULL t", USUAL, NULL, x -> x.copy(0, 0, 3, 0, 1));
        refused("copy: NULL ahead of INDEX", USUAL, NULL, x -> x.copy(0, 9, 3, -1, -1));
        refused("copy: STORE", USUAL, STORE, x -> x.copy(0, 0, 1, 0, 1));
        refused("copy: STORE ahead of INDEX", USUAL, STORE, x -> x.copy(0, -1, 1, 99, -9));
        refused("copy: STORE of none", USUAL, STORE, x -> x.copy(1, 0, 2, 0, 0));
        refused("copy: INDEX", USUAL, INDEX, x -> x.copy(0, 1, 0, 0, 5));
        refused("copy: INDEX", USUAL, INDEX, x -> x.copy(0, 0, 0, 1, 5));
        refused("copy: INDEX", USUAL, INDEX, x -> x.copy(0, 0, 0, 0, -1));
        refused("copy: INDEX", USUAL, INDEX, x -> x.copy(0, -1, 0, 0, 2));
        refused("copy: INDEX", USUAL, INDEX, x -> x.copy(0, 0, 0, -1, 2));
        refused("copy: INDEX", FULL_SCENE, INDEX, x -> x.copy(0, 1, 3, 0, 60));
        refused("copy: INDEX", FULL_SCENE, INDEX, x -> x.copy(3, 0, 0, MOST, 1));
    }

    private static void ofReadAndWrite() {
        bad("read", 4, (x, v) -> x.read(v));
        refused("read: NULL", EMPTY, NULL, x -> x.read(0));
        refused("read: NULL", USUAL, NULL, x -> x.read(3));
        refused("read of none", USUAL, 0, x -> x.read(2));
        refused("read with no room", FULL_SCENE, 0, x -> x.read(0));
        bad("write: walker", 6, (x, v) -> x.write(v, 0));
        bad("write: sheet", 4, (x, v) -> x.write(0, v));
        refused("BAD ahead of NULL", EMPTY, BAD, x -> x.write(0, 0));
        refused("BAD ahead of NULL", USUAL, BAD, x -> x.write(3, 3));
        refused("write: NULL", USUAL, NULL, x -> x.write(0, 3));
        refused("write of none", USUAL, 0, x -> x.write(0, 2));
    }

    private static void ofCount() {
        bad("count", 9, (x, v) -> x.count(v));
    }

    /** A finding behind another is the latest; a refusal that is no finding leaves it. */
    private static void findingsAreTheLatest() {
        Call[] calls = {x -> x.lose(3), x -> x.lay(0, 0, 5, 0), x -> x.lay(0, 1, 0, 0), x -> x.copy(0, 0, 1, 0, 1),
            x -> x.sheet(0, 0, -1)};
        for (int first = 1; first <= 5; first++) {
            for (int second = 1; second <= 5; second++) {
                WireWalkers x = usual();
                due("finding " + first, calls[first - 1].on(x), -10 - first);
                due("count(8)", x.count(8), first);
                x.type(2, 0);
                x.lose(4);
                x.sheet(0, 0, 61);
                due("count(8) yet", x.count(8), first);
                due("finding " + second, calls[second - 1].on(x), -10 - second);
                due("count(8)", x.count(8), second);
            }
        }
    }
}
