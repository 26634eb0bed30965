/** Each promise of the document, by shows that were followed by hand. */
public final class PromisesTest {
    private static final int NONE = -1, BAD = -2, NOT = -3, FULL = -4;
    private static final int NULL = -11, INDEX = -12, CAST = -13, STORE = -14, SIZE = -15;
    private static final int[] FAR = {Integer.MIN_VALUE, -2, -1, 99, Integer.MAX_VALUE};

    public static void main(String[] args) {
        aNewObject();
        type();
        wipeAndUndo();
        fault();
        walkerAndRoutine();
        wire();
        eventAndBack();
        read();
        atAndSees();
        leanOfSorts();
        gustsDropsCheers();
        overIsFirst();
        sway();
        ends();
        sumWhoBare();
        start();
        hold();
        act();
        spare();
        seenForgetNever();
        was();
        ask();
        chance();
        shows();
        sheetAndLose();
        layAndGet();
        copy();
        write();
        count();
        digest();
        refusalsChangeNothing();
        Check.finish();
    }

    private static void due(String call, long got, long want) {
        Check.due(call, got, want);
    }

    /** LEAN of walker 0 behind beats 1 on. */
    private static void leans(String what, WireWalkers x, int... want) {
        for (int k = 0; k < want.length; k++) {
            due(what + ": lean(" + (k + 1) + ", 0)", x.lean(k + 1, 0), want[k]);
        }
    }

    /** PLACE of a walker behind beats 0 on. */
    private static void places(String what, WireWalkers x, int walker, int... want) {
        for (int beat = 0; beat < want.length; beat++) {
            due(what + ": at(" + beat + ", " + walker + ", 1)", x.at(beat, walker, 1), want[beat]);
        }
    }

    private static void aNewObject() {
        WireWalkers x = new WireWalkers();
        int[] counts = {0, 0, 0, 0, 20, 2, 8, 0, 0};
        for (int what = 0; what <= 8; what++) {
            due("new: count(" + what + ")", x.count(what), counts[what]);
        }
        for (int beat = 0; beat < 24; beat++) {
            due("new: routine(" + beat + ")", x.routine(beat), 0);
            due("new: sway(" + beat + ")", x.sway(beat), 0);
        }
        for (int s = 0; s < 4; s++) {
            due("new: lose", x.lose(s), NULL);
        }
        due("NONE", WireWalkers.NONE, -1);
        due("BAD", WireWalkers.BAD, -2);
        due("NOT", WireWalkers.NOT, -3);
        due("FULL", WireWalkers.FULL, -4);
    }

    private static void type() {
        WireWalkers x = new WireWalkers();
        due("type 0", x.type(0, 0), 1);
        due("type 255", x.type(0, 255), 2);
        due("type other text", x.type(1, 255), 1);
        due("type -1", x.type(0, -1), BAD);
        due("type 256", x.type(0, 256), BAD);
        due("text -1", x.type(-1, 97), BAD);
        due("text 2", x.type(2, 97), BAD);
        for (int k = 3; k <= 23; k++) {
            due("type to 23", x.type(0, 'a'), k);
        }
        due("24th byte of walkers", x.type(0, 'a'), FULL);
        due("BAD ahead of FULL", x.type(0, 256), BAD);
        for (int k = 2; k <= 24; k++) {
            due("type to 24", x.type(1, 'f'), k);
        }
        due("25th byte of the routine", x.type(1, 'f'), FULL);
        due("bytes", x.count(2), 47);
    }

    private static void wipeAndUndo() {
        WireWalkers x = Check.told("as0;bb1", "fwl");
        due("undo walkers", x.undo(0), 6);
        due("not ended", x.count(0), 0);
        due("undo", x.undo(0), 5);
        due("undo", x.undo(0), 4);
        due("undo", x.undo(0), 3);
        due("well again", x.count(0), 1);
        due("undo routine", x.undo(1), 2);
        due("routine(2)", x.routine(2), 0);
        due("routine(1)", x.routine(1), 1);
        due("wipe routine", x.wipe(1), 2);
        due("wipe again", x.wipe(1), 0);
        due("undo empty", x.undo(1), NOT);
        due("walkers stand", x.count(0), 1);
        due("wipe walkers", x.wipe(0), 3);
        due("no walkers", x.count(0), 0);
        for (int text : new int[] {-1, 2, 99}) {
            due("wipe BAD", x.wipe(text), BAD);
            due("undo BAD", x.undo(text), BAD);
            due("fault BAD", x.fault(text), BAD);
        }
    }

    private static void fault() {
        String[] walkers = {"", "a", "as", "as0", "as0;", "as0;x", "y", "`", "A", "a0", "ass", "as:", "as/", "as00",
            "as0,", "xo9;ab5", "as0;;", ";", "as0;bs1;cs2;ds3;es4;fs5", "as0;bs1;cs2;ds3;es4;fs5x", "as0;bs1;cs2;ds3;es4;f"};
        int[] faults = {NONE, 1, 2, NONE, 4, 5, 0, 0, 0, 1, 2, 2, 2, 3, 3, NONE, 4, 0, NONE, NONE, 21};
        for (int k = 0; k < walkers.length; k++) {
            due("fault of walkers " + walkers[k], Check.told(walkers[k], "").fault(0), faults[k]);
        }
        String[] routines = {"", "fwlr", "x", "fx", "f;", "fwlrF", "ffffffffffffffffffffffff"};
        int[] places = {NONE, NONE, 0, 1, 1, 4, NONE};
        for (int k = 0; k < routines.length; k++) {
            due("fault of routine " + routines[k], Check.told("", routines[k]).fault(1), places[k]);
        }
    }

    private static void walkerAndRoutine() {
        WireWalkers x = Check.told("cb7;xo0;as9", "fwlr");
        int[][] want = {{2, 1, 7}, {23, 2, 0}, {0, 0, 9}};
        for (int w = 0; w < 3; w++) {
            for (int what = 0; what < 3; what++) {
                due("walker(" + w + ", " + what + ")", x.walker(w, what), want[w][what]);
            }
        }
        due("walker(3, 0)", x.walker(3, 0), BAD);
        due("walker(-1, 0)", x.walker(-1, 0), BAD);
        due("walker(0, 3)", x.walker(0, 3), BAD);
        due("walker(0, -1)", x.walker(0, -1), BAD);
        for (int beat = 0; beat < 24; beat++) {
            due("routine(" + beat + ")", x.routine(beat), beat < 4 ? beat : 0);
        }
        due("routine(24)", x.routine(24), BAD);
        due("routine(-1)", x.routine(-1), BAD);
        x.type(0, '!');
        due("with a fault nobody is there", x.walker(0, 0), BAD);
        x.type(1, '!');
        due("with a fault all is forward", x.routine(1), 0);
    }

    private static void wire() {
        WireWalkers x = new WireWalkers();
        int[][] ends = {{5, 40, 20}, {0, 9, 2}, {3, 20, 8}};
        for (int what = 0; what < 3; what++) {
            int least = ends[what][0];
            int most = ends[what][1];
            due("wire below", x.wire(what, least - 1), BAD);
            due("wire above", x.wire(what, most + 1), BAD);
            due("wire least", x.wire(what, least), ends[what][2]);
            due("wire most", x.wire(what, most), least);
            due("wire is", x.count(4 + what), most);
        }
        due("wire(-1)", x.wire(-1, 5), BAD);
        due("wire(3)", x.wire(3, 5), BAD);
    }

    private static void eventAndBack() {
        WireWalkers x = Check.wired("as0", "", 20, 0, 8);
        due("no event to undo", x.back(), NOT);
        int[][] bad = {{-1, 0, 0}, {3, 0, 0}, {0, -1, 0}, {0, 24, 0}, {0, 0, -1}, {0, 0, 6}, {2, 0, 6}};
        for (int[] e : bad) {
            due("event BAD", x.event(e[0], e[1], e[2]), BAD);
        }
        due("event", x.event(0, 3, 1), 1);
        due("leans by it", x.lean(3, 0), 4);
        due("back", x.back(), 0);
        due("undone", x.lean(3, 0), 0);
        for (int k = 1; k <= 8; k++) {
            due("event", x.event(k % 3, 23, 5), k);
        }
        due("ninth", x.event(0, 0, 0), FULL);
        due("BAD ahead of FULL", x.event(0, 24, 0), BAD);
        due("back of eight", x.back(), 7);
        due("count", x.count(3), 7);
    }

    private static void read() {
        WireWalkers x = Check.wired("as0", "", 20, 0, 8);
        due("read BAD", x.read(4), BAD);
        due("read BAD", x.read(-1), BAD);
        due("read of a lost one", x.read(2), NULL);
        due("finding", x.count(8), 1);
        x.sheet(2, 0, 8);
        x.lay(2, 0, 1, 3);
        x.lay(2, 0, 2, 1);
        x.lay(2, 0, 3, 2);
        x.lay(2, 0, 6, 0);
        due("two are whole", x.read(2), 2);
        due("gust of the first", x.lean(3, 0), 4);
        due("cheer of the second", x.count(3), 2);
        due("they come behind others", x.read(2), 2);
        due("four now", x.count(3), 4);
        due("both gusts", x.lean(3, 0), 7);
        x.sheet(1, 2, 60);
        due("no more than eight", x.read(1), 4);
        due("eight", x.count(3), 8);
        due("none more", x.read(1), 0);
        while (x.count(3) > 0) {
            x.back();
        }
        x.lay(1, 2, 4, 24);
        due("up to one that may not be", x.read(1), 1);
        x.sheet(0, 1, 2);
        due("none is whole", x.read(0), 0);
        x.sheet(0, 1, 0);
        due("no items", x.read(0), 0);
        x.sheet(0, 1, 3);
        x.lay(0, 1, 0, -1);
        due("the first may not be", x.read(0), 0);
        due("one event", x.count(3), 1);
    }

    private static void atAndSees() {
        WireWalkers x = Check.wired("as0", "", 5, 0, 8);
        places("steady", x, 0, 0, 1, 2, 3, 4, 5, 5);
        due("on", x.at(4, 0, 0), 1);
        due("over", x.at(5, 0, 0), 2);
        due("over for good", x.at(23, 0, 0), 2);
        due("over at LENGTH", x.at(23, 0, 1), 5);
        due("sees", x.sees(3, 3), 0);
        due("nobody there", x.sees(3, 4), NONE);
        due("who is over is not on the wire", x.sees(5, 5), NONE);
        due("sees(23, 40)", x.sees(23, 40), NONE);
        due("sees beat", x.sees(24, 0), BAD);
        due("sees beat", x.sees(-1, 0), BAD);
        due("sees place", x.sees(0, 41), BAD);
        due("sees place", x.sees(0, -1), BAD);
        for (int far : FAR) {
            due("at beat", x.at(far, 0, 0), BAD);
            due("at walker", x.at(0, far, 0), BAD);
            due("at what", x.at(0, 0, far), BAD);
        }
        due("at walker", x.at(0, 1, 0), BAD);
        due("at beat", x.at(24, 0, 0), BAD);
        due("at what", x.at(0, 0, 2), BAD);
        places("bold", Check.wired("bb0", "", 5, 0, 20), 0, NONE, 0, 2, 4, 5, 5);
        WireWalkers late = Check.wired("as0;as0", "w", 20, 0, 8);
        places("first", late, 0, 0, 0, 1, 2);
        places("waits for place 0", late, 1, NONE, NONE, 0, 0, 1);
        due("not on yet", late.at(1, 1, 0), 0);
        due("both seen", late.sees(3, 0), 1);
        due("both seen", late.sees(3, 2), 0);
        WireWalkers tight = Check.wired("as0;bb0", "", 20, 0, 20);
        places("bold behind steady", tight, 1, NONE, 0, 1, 2, 3);
        WireWalkers numbers = Check.wired("cs0;as0;cs0", "", 20, 0, 8);
        places("one number", numbers, 1, 0, 1, 2, 3);
        places("least number first", numbers, 0, NONE, NONE, 0, 1);
        places("then the next", numbers, 2, NONE, NONE, NONE, 0);
    }

    private static void leanOfSorts() {
        leans("bold", Check.wired("ab0", "", 5, 0, 20), 3, 6, 0, 0);
        leans("old, pole 9", Check.wired("ao9", "lrw", 20, 0, 20), -6, -2, -2, -3, -4);
        leans("old, pole 8", Check.wired("ao8", "r", 20, 0, 20), 5, 6);
        leans("steady, pole 9", Check.wired("as9", "l", 20, 0, 20), -5, -6);
        leans("steady, pole 5", Check.wired("as5", "lfwww", 20, 0, 20), -2, -2, -1, 0, 0);
        leans("steady, pole 6", Check.wired("as6", "rw", 20, 0, 20), 4, 4, 5);
        leans("bold waits", Check.wired("ab2", "rwww", 20, 0, 20), 2, 2, 2, 2);
        leans("no lean at all", Check.wired("ao0", "www", 20, 0, 20), 0, 0, 0, 0);
        WireWalkers x = Check.wired("bo9", "l", 20, 0, 6);
        due("not on yet", x.lean(0, 0), 0);
        due("starts at 0", x.lean(1, 0), 0);
        due("fell", x.at(2, 0, 0), 3);
        due("leans as then", x.lean(23, 0), -6);
        due("by less than LIMIT", Check.wired("bo9", "l", 20, 0, 7).at(2, 0, 0), 1);
        due("lean beat", x.lean(24, 0), Check.LEAST);
        due("lean beat", x.lean(-1, 0), Check.LEAST);
        due("lean walker", x.lean(0, 1), Check.LEAST);
        due("lean walker", x.lean(0, -1), Check.LEAST);
    }

    private static void gustsDropsCheers() {
        WireWalkers x = Check.wired("as0", "", 20, 0, 8);
        x.event(0, 0, 1);
        leans("nobody on yet", x, 0, 0, 0);
        x.event(0, 3, 1);
        leans("gust to the right", x, 0, 0, 4, 5, 6, 7, 8, 8);
        due("fell", x.at(7, 0, 0), 3);
        due("where", x.at(23, 0, 1), 7);
        due("gone from the wire", x.sees(7, 7), NONE);
        due("was on it", x.sees(6, 6), 0);
        x.event(0, 3, 4);
        leans("gusts both ways", x, 0, 0, 0, 0);
        x.event(0, 4, 2);
        leans("gust to the left", x, 0, 0, 0, -4, -5);
        int[] drops = {1, 2, 3};
        int[] wants = {-3, -3, -6};
        for (int k = 0; k < 3; k++) {
            WireWalkers y = Check.wired("ao9", "fl", 20, 0, 20);
            y.event(1, drops[k], 0);
            due("pole dropped in " + drops[k], y.lean(2, 0), wants[k]);
        }
        WireWalkers other = Check.wired("ao9", "fl", 20, 0, 20);
        other.event(1, 0, 1);
        due("another's pole", other.lean(2, 0), -6);
        WireWalkers early = Check.wired("co9", "l", 20, 0, 20);
        early.event(1, 0, 0);
        due("dropped ahead of the start", early.lean(3, 0), -3);
        due("as told", early.walker(0, 2), 9);
        WireWalkers cheer = Check.wired("as0;bb0", "", 20, 0, 20);
        cheer.event(2, 2, 0);
        cheer.event(2, 2, 5);
        places("cheered once", cheer, 0, 0, 1, 3, 4);
        places("bold and cheered", cheer, 1, NONE, 0, 2, 3);
        WireWalkers alone = Check.wired("ab0", "w", 20, 0, 20);
        alone.event(2, 1, 0);
        alone.event(2, 2, 0);
        places("a cheer moves nobody who waits", alone, 0, 0, 0, 3, 5);
        due("bold leans by each place", alone.lean(2, 0), 4);
    }

    private static void overIsFirst() {
        WireWalkers x = Check.wired("as0", "", 5, 0, 3);
        x.event(0, 5, 1);
        due("over, not fallen", x.at(5, 0, 0), 2);
        due("leans 0", x.lean(5, 0), 0);
        due("never leaned behind a beat", x.ends(0, 2), 0);
        x.back();
        x.event(0, 4, 0);
        due("fell", x.at(5, 0, 0), 3);
        due("at 4", x.at(5, 0, 1), 4);
        due("lean", x.lean(5, 0), -4);
    }

    private static void sway() {
        WireWalkers x = Check.wired("as0", "", 20, 5, 8);
        int[] want = {0, 0, 2, -2, 2, -2};
        for (int beat = 0; beat < want.length; beat++) {
            due("sway(" + beat + ")", x.sway(beat), want[beat]);
        }
        leans("swayed", x, 0, 2, 0, 2, 0);
        WireWalkers still = Check.wired("as0", "wwf", 20, 9, 8);
        int[] later = {0, 0, 0, 0, 4, -4};
        for (int beat = 0; beat < later.length; beat++) {
            due("still: sway(" + beat + ")", still.sway(beat), later[beat]);
        }
        due("half of 1, cut", Check.wired("as0", "", 20, 1, 8).sway(2), 0);
        WireWalkers empty = Check.wired("as0", "", 5, 4, 8);
        due("sways with nobody on it", empty.sway(6), 2);
        due("nobody went on", empty.sway(7), 0);
        due("sway(24)", empty.sway(24), Check.LEAST);
        due("sway(-1)", empty.sway(-1), Check.LEAST);
    }

    private static void ends() {
        WireWalkers x = Check.wired("as0;bs0", "fw", 20, 0, 8);
        due("blocked", x.ends(1, 1), 1);
        due("not blocked", x.ends(0, 1), 0);
        places("blocked one", x, 1, NONE, 0, 0, 0, 1);
        due("over in 21", x.ends(0, 0), 21);
        due("over in the last beat", x.ends(1, 0), 23);
        due("no end", Check.wired("as0", "", 40, 0, 8).ends(0, 0), NONE);
        due("waiting is not being blocked", Check.wired("as0;as0", "ww", 20, 0, 8).ends(1, 1), 0);
        WireWalkers fell = Check.wired("as0", "", 20, 0, 8);
        fell.event(0, 3, 1);
        due("fell in", fell.ends(0, 0), 7);
        due("leaned by", fell.ends(0, 2), 8);
        WireWalkers over = Check.wired("ab0", "", 5, 0, 20);
        due("over in", over.ends(0, 0), 3);
        due("leaned by", over.ends(0, 2), 6);
        due("to the left too", Check.wired("ao9", "lr", 20, 0, 20).ends(0, 2) >= 6 ? 1 : 0, 1);
        for (int far : FAR) {
            due("ends walker", over.ends(far, 0), BAD);
            due("ends what", over.ends(0, far), BAD);
        }
        due("ends(1)", over.ends(1, 0), BAD);
        due("ends(0, 3)", over.ends(0, 3), BAD);
    }

    private static void sumWhoBare() {
        WireWalkers x = Check.wired("as0", "", 5, 0, 8);
        due("over", x.sum(0), 1);
        due("fell", x.sum(1), 0);
        due("places", x.sum(2), 5);
        due("first", x.who(0), 0);
        due("nobody leaned", x.who(1), NONE);
        due("bare", x.bare(), 19);
        for (int far : FAR) {
            due("sum BAD", x.sum(far), BAD);
            due("who BAD", x.who(far), BAD);
        }
        due("sum(3)", x.sum(3), BAD);
        due("who(2)", x.who(2), BAD);
        WireWalkers tie = Check.wired("bb0;ab0", "", 5, 0, 20);
        due("1 is over first", tie.who(0), 1);
        due("both lean by 6", tie.who(1), 0);
        tie.event(2, 3, 0);
        due("over in 3", tie.ends(0, 0), 3);
        due("over in 3", tie.ends(1, 0), 3);
        due("of like ones the least", tie.who(0), 0);
        due("1 leaned by 6, 0 by 3", tie.who(1), 1);
        due("all places", tie.sum(2), 10);
        WireWalkers fall = Check.wired("as0;bs0", "", 20, 0, 8);
        fall.event(0, 1, 1);
        due("only 0 was on", fall.sum(1), 1);
        due("1 is over", fall.sum(0), 1);
        due("1 is first", fall.who(0), 1);
        due("0 is worst", fall.who(1), 0);
        due("nobody", new WireWalkers().who(0), NONE);
        due("nobody", new WireWalkers().who(1), NONE);
        due("all bare", new WireWalkers().bare(), 24);
    }

    private static void start() {
        WireWalkers x = Check.wired("as0", "", 5, 0, 5);
        x.event(0, 3, 1);
        due("falls", x.sum(0), 0);
        due("start which", x.start(0, 0), 3);
        due("start how many", x.start(0, 1), 1);
        due("as told yet", x.walker(0, 0), 0);
        due("falls yet", x.sum(0), 0);
        due("of like ones the least", Check.wired("xs0", "", 5, 0, 8).start(0, 0), 0);
        due("nobody ever", Check.wired("xs0", "", 40, 0, 8).start(0, 0), 0);
        due("nobody ever", Check.wired("xs0", "", 40, 0, 8).start(0, 1), 0);
        badPlan("start", x.start(1, 0), x.start(-1, 0), x.start(0, 2), x.start(0, -1));
    }

    private static void badPlan(String call, int... got) {
        for (int answer : got) {
            due(call + " BAD", answer, BAD);
        }
    }

    private static void hold() {
        WireWalkers x = Check.wired("as9", "fffl", 10, 0, 8);
        x.event(0, 3, 1);
        due("hold which", x.hold(0, 0), 3);
        due("hold how many", x.hold(0, 1), 1);
        due("as told yet", x.walker(0, 2), 9);
        x.event(1, 4, 0);
        due("dropped whatever it is", x.hold(0, 0), 0);
        due("dropped whatever it is", x.hold(0, 1), 0);
        badPlan("hold", x.hold(1, 0), x.hold(-1, 0), x.hold(0, 2), x.hold(0, -1));
    }

    private static void act() {
        WireWalkers x = Check.wired("as3", "fff", 10, 0, 8);
        x.event(0, 3, 1);
        due("act at 3", x.act(3, 0), 2);
        due("act at 3", x.act(3, 1), 1);
        due("act at 0", x.act(0, 0), 2);
        due("act at 23", x.act(23, 0), 0);
        due("act at 23", x.act(23, 1), 0);
        due("as told yet", x.routine(3), 0);
        due("falls yet", x.sum(1), 1);
        WireWalkers y = Check.wired("as0", "rwr", 5, 0, 8);
        due("forward is least", y.act(1, 0), 0);
        due("over anyhow", y.act(1, 1), 1);
        badPlan("act", x.act(24, 0), x.act(-1, 0), x.act(0, 2), x.act(0, -1));
    }

    /** A steady one with gusts: each is beat and number. */
    private static WireWalkers gusty(int... gusts) {
        WireWalkers x = Check.wired("as0", "", 10, 0, 8);
        for (int k = 0; k + 1 < gusts.length; k += 2) {
            x.event(0, gusts[k], gusts[k + 1]);
        }
        return x;
    }

    private static void spares(String what, WireWalkers x, int many, int first, int second) {
        due(what + ": spare(NONE)", x.spare(NONE), many);
        due(what + ": spare(0)", x.spare(0), first);
        due(what + ": spare(1)", x.spare(1), second);
    }

    private static void spare() {
        spares("no events", gusty(), 0, NONE, NONE);
        spares("they do nothing", gusty(3, 1, 3, 0), 0, NONE, NONE);
        spares("one", gusty(3, 1), 1, 0, NONE);
        spares("either, so the first", gusty(3, 1, 3, 0, 3, 1), 1, 0, NONE);
        spares("the second", gusty(3, 1, 3, 0, 5, 0), 1, 1, NONE);
        spares("two", gusty(20, 1, 3, 1, 3, 1), 2, 1, 2);
        spares("three would be", gusty(3, 1, 3, 1, 3, 1), NONE, NONE, NONE);
        spares("nobody can fall", new WireWalkers(), 0, NONE, NONE);
        badPlan("spare", gusty().spare(2), gusty().spare(-2));
    }

    private static void seenForgetNever() {
        WireWalkers x = gusty(3, 1, 20, 1);
        due("never without seen", x.never(), 3);
        due("seen", x.seen(7, 0, 1), 1);
        due("never", x.never(), 1);
        due("seen", x.seen(7, 0, 3), 2);
        due("both can't be", x.never(), 0);
        due("forget", x.forget(), 2);
        due("forget", x.forget(), 0);
        due("seen", x.seen(7, 0, 3), 1);
        due("never", x.never(), 2);
        due("of one that there is not", x.seen(0, 5, 0), 2);
        due("nothing comes out so", x.never(), 0);
        int[][] bad = {{-1, 0, 0}, {24, 0, 0}, {0, -1, 0}, {0, 6, 0}, {0, 0, -1}, {0, 0, 4}};
        for (int[] s : bad) {
            due("seen BAD", x.seen(s[0], s[1], s[2]), BAD);
        }
        for (int k = 3; k <= 8; k++) {
            due("seen", x.seen(23, 5, 3), k);
        }
        due("ninth seen", x.seen(0, 0, 0), FULL);
        due("BAD ahead of FULL", x.seen(0, 6, 0), BAD);
        due("count", x.count(7), 8);
    }

    private static void was() {
        WireWalkers x = Check.wired("as3", "fffl", 10, 0, 8);
        x.event(0, 3, 1);
        due("all poles", x.was(0, 0), 1023);
        due("all sorts", x.was(0, 1), 7);
        x.seen(9, 0, 1);
        due("poles", x.was(0, 0), 1016);
        due("sorts", x.was(0, 1), 5);
        x.seen(10, 0, 1);
        due("sorts", x.was(0, 1), 1);
        due("as told yet", x.walker(0, 2), 3);
        due("as told yet", x.walker(0, 1), 0);
        x.seen(0, 1, 0);
        due("one that there is not", x.was(0, 0), 0);
        due("one that there is not", x.was(0, 1), 0);
        badPlan("was", x.was(1, 0), x.was(-1, 0), x.was(0, 2), x.was(0, -1));
    }

    private static void ask() {
        WireWalkers x = Check.wired("as3", "fffl", 10, 0, 8);
        due("all alike", Check.wired("as3", "fff", 10, 0, 8).ask(0), 0);
        due("six go on, three fell at 7, one at 6", x.ask(0), 9);
        x.event(0, 3, 1);
        due("behind 9 the fallen are behind", x.ask(0), 9);
        x.seen(8, 0, 3);
        due("all of three fell", x.ask(0), 0);
        x.seen(8, 0, 1);
        due("no pole at all", x.ask(0), 0);
        due("as told yet", x.walker(0, 2), 3);
        badPlan("ask", x.ask(1), x.ask(-1), x.ask(6));
    }

    private static void chance() {
        WireWalkers x = gusty(3, 1);
        long[][] one = {{0, 1, 1}, {5, 11, 16}, {8, 1, 2}, {16, 0, 1}};
        for (long[] c : one) {
            due("chance above", x.chance((int) c[0], 0, 0), c[1]);
            due("chance below", x.chance((int) c[0], 0, 1), c[2]);
        }
        x.event(0, 3, 0);
        due("both or none", x.chance(4, 0, 0), 5);
        due("both or none", x.chance(4, 0, 1), 8);
        x.back();
        due("one again", x.chance(4, 0, 0), 3);
        due("one again", x.chance(4, 0, 1), 4);
        WireWalkers eight = gusty(3, 1);
        for (int k = 0; k < 7; k++) {
            eight.event(0, 3, 1);
        }
        due("none of eight", eight.chance(1, 0, 0), 2562890625L);
        due("none of eight", eight.chance(1, 0, 1), 4294967296L);
        due("chance c", x.chance(-1, 0, 0), Check.LONG_BAD);
        due("chance c", x.chance(17, 0, 0), Check.LONG_BAD);
        due("chance walker", x.chance(0, 1, 0), Check.LONG_BAD);
        due("chance walker", x.chance(0, -1, 0), Check.LONG_BAD);
        due("chance what", x.chance(0, 0, 2), Check.LONG_BAD);
        due("chance what", x.chance(0, 0, -1), Check.LONG_BAD);
    }

    private static void shows() {
        WireWalkers x = Check.wired("as9;bb3;co0", "rrrr", 8, 3, 12);
        x.event(2, 3, 0);
        for (int seed : new int[] {0, 1, 7, -1, 123456789, Integer.MIN_VALUE}) {
            for (int n : new int[] {0, 1, 2, 12, 23, 24}) {
                WireWalkers y = Check.wired("as9;bb3;co0", lots(seed, n), 8, 3, 12);
                y.event(2, 3, 0);
                due("shows over", x.shows(seed, n, 0), y.sum(0));
                due("shows places", x.shows(seed, n, 1), y.sum(2));
            }
        }
        due("as told yet", x.routine(0), 3);
        badPlan("shows", x.shows(0, -1, 0), x.shows(0, 25, 0), x.shows(0, 0, 2), x.shows(0, 0, -1));
    }

    private static String lots(int seed, int n) {
        long at = seed & 0xffffffffL;
        StringBuilder routine = new StringBuilder();
        for (int k = 0; k < n; k++) {
            at = (at * 1103515245L + 12345L) % 4294967296L;
            routine.append("fwlr".charAt((int) (at / 65536 % 4)));
        }
        return routine.toString();
    }

    private static void sheetAndLose() {
        WireWalkers x = new WireWalkers();
        due("sheet", x.sheet(0, 0, 60), 60);
        due("sheet", x.sheet(3, 2, 0), 0);
        due("sheet s", x.sheet(-1, 0, 1), BAD);
        due("sheet s", x.sheet(4, 0, 1), BAD);
        due("sheet form", x.sheet(0, -1, 1), BAD);
        due("sheet form", x.sheet(0, 3, 1), BAD);
        due("sheet n", x.sheet(0, 0, 61), BAD);
        due("BAD ahead of SIZE", x.sheet(0, 3, -1), BAD);
        due("no finding yet", x.count(8), 0);
        due("sheet size", x.sheet(0, 0, -1), SIZE);
        due("finding", x.count(8), 5);
        due("stands yet", x.lay(0, 0, 59, 7), 1);
        due("made anew", x.sheet(0, 0, 60), 60);
        due("0 at first", x.get(0, 0, 59), 0);
        due("made shorter", x.sheet(0, 1, 2), 2);
        due("of two", x.get(0, 1, 2), Check.LEAST);
        due("lose", x.lose(0), 2);
        due("lost", x.lose(0), NULL);
        due("lose of none", x.lose(3), 0);
        due("never made", x.lose(2), NULL);
        due("lose BAD", x.lose(4), BAD);
        due("lose BAD", x.lose(-1), BAD);
        due("finding", x.count(8), 1);
    }

    private static void layAndGet() {
        WireWalkers x = new WireWalkers();
        int[] got = {(byte) 0x12345678, (short) 0x12348678, 0x12348678};
        for (int form = 0; form < 3; form++) {
            x.sheet(form, form, 5);
            due("lay", x.lay(form, form, 4, form == 0 ? 0x12345678 : 0x12348678), 1);
            due("get", x.get(form, form, 4), got[form]);
            due("another item", x.get(form, form, 3), 0);
            due("lay INDEX", x.lay(form, form, 5, 1), INDEX);
            due("lay INDEX", x.lay(form, form, -1, 1), INDEX);
            due("CAST ahead of INDEX", x.lay(form, (form + 1) % 3, 5, 1), CAST);
            due("finding", x.count(8), 3);
            due("get INDEX", x.get(form, form, 5), Check.LEAST);
            due("finding", x.count(8), 2);
            due("get CAST", x.get(form, (form + 1) % 3, 0), Check.LEAST);
            due("finding", x.count(8), 3);
            due("BAD is no finding", x.get(form, 3, 0), Check.LEAST);
            due("finding", x.count(8), 3);
        }
        x.lay(0, 0, 0, 200);
        due("bytes have signs", x.get(0, 0, 0), -56);
        due("NULL", x.lay(3, 0, 0, 0), NULL);
        due("NULL", x.get(3, 0, 0), Check.LEAST);
        due("finding", x.count(8), 1);
        badPlan("lay", x.lay(4, 0, 0, 0), x.lay(-1, 0, 0, 0), x.lay(3, 3, 0, 0), x.lay(3, -1, 0, 0));
        due("get BAD", x.get(4, 0, 0), Check.LEAST);
        due("get BAD", x.get(-1, 0, 0), Check.LEAST);
    }

    private static void items(String what, WireWalkers x, int s, int form, int... want) {
        for (int i = 0; i < want.length; i++) {
            due(what + ": get(" + s + ", " + form + ", " + i + ")", x.get(s, form, i), want[i]);
        }
    }

    private static void copy() {
        WireWalkers x = new WireWalkers();
        x.sheet(0, 2, 5);
        x.sheet(1, 2, 3);
        x.sheet(2, 1, 3);
        for (int i = 0; i < 5; i++) {
            x.lay(0, 2, i, i + 1);
        }
        due("copy", x.copy(0, 2, 1, 0, 3), 1);
        items("copied", x, 1, 2, 3, 4, 5);
        due("copy onto itself", x.copy(0, 0, 0, 1, 4), 1);
        items("as they were", x, 0, 2, 1, 1, 2, 3, 4);
        due("copy down", x.copy(0, 1, 0, 0, 4), 1);
        items("down", x, 0, 2, 1, 2, 3, 4, 4);
        due("none", x.copy(0, 5, 1, 3, 0), 1);
        int[][] off = {{6, 0, 0}, {0, 4, 0}, {-1, 0, 1}, {0, -1, 1}, {0, 0, -1}, {0, 0, 4}, {3, 0, 3}, {0, 1, 3},
            {Integer.MAX_VALUE, 0, 1}, {1, 1, Integer.MAX_VALUE}, {0, Integer.MAX_VALUE, 2}, {Integer.MIN_VALUE, 0, 0}};
        for (int[] o : off) {
            due("copy INDEX", x.copy(0, o[0], 1, o[1], o[2]), INDEX);
        }
        items("unchanged", x, 1, 2, 3, 4, 5);
        due("STORE ahead of INDEX", x.copy(0, -1, 2, 0, 1), STORE);
        due("finding", x.count(8), 4);
        due("NULL from", x.copy(3, 0, 2, 0, 1), NULL);
        due("NULL to", x.copy(0, -1, 3, 0, 1), NULL);
        due("finding", x.count(8), 1);
        badPlan("copy", x.copy(4, 0, 3, 0, 0), x.copy(3, 0, 4, 0, 0), x.copy(-1, 0, 0, 0, 0), x.copy(0, 0, -1, 0, 0));
    }

    private static void write() {
        WireWalkers x = Check.wired("as0;xs0", "", 20, 0, 8);
        x.event(0, 3, 0);
        for (int form = 0; form < 3; form++) {
            x.sheet(0, form, 26);
            x.lay(0, form, 0, 9);
            x.lay(0, form, 24, 9);
            due("write", x.write(0, 0), 24);
            items("leans", x, 0, form, 0, 0, 0, -4, -5, -6, -7, -8, -8);
            due("not behind 23", x.get(0, form, 24), 9);
            due("behind 23", x.get(0, form, 23), -8);
        }
        x.sheet(1, 0, 4);
        due("as many as there are", x.write(0, 1), 4);
        due("the last", x.get(1, 0, 3), -4);
        due("another one", x.write(1, 1), 4);
        due("the last", x.get(1, 0, 3), 0);
        x.sheet(1, 0, 0);
        due("no items", x.write(0, 1), 0);
        due("NULL", x.write(0, 2), NULL);
        due("finding", x.count(8), 1);
        badPlan("write", x.write(2, 0), x.write(-1, 0), x.write(0, 4), x.write(0, -1), x.write(2, 2));
    }

    private static void count() {
        WireWalkers x = Check.wired("as0;bs1", "fwl", 7, 3, 9);
        x.event(0, 0, 0);
        x.seen(0, 0, 0);
        x.lose(0);
        int[] want = {2, 3, 10, 1, 7, 3, 9, 1, 1};
        for (int what = 0; what <= 8; what++) {
            due("count(" + what + ")", x.count(what), want[what]);
        }
        x.type(0, '?');
        x.type(1, '?');
        due("walkers with a fault", x.count(0), 0);
        due("routine with a fault", x.count(1), 0);
        due("bytes all the same", x.count(2), 12);
        for (int far : new int[] {-1, 9, Integer.MIN_VALUE, Integer.MAX_VALUE}) {
            due("count BAD", x.count(far), BAD);
        }
    }

    private static void digest() {
        WireWalkers x = Check.wired("as6;ab3;bo9;cs0", "fflfrfwf", 9, 4, 11);
        x.event(0, 3, 1);
        x.event(1, 2, 1);
        x.event(2, 4, 0);
        x.seen(4, 0, 1);
        due("digest", x.digest(), digestOf(x));
        due("digest of none", new WireWalkers().digest(), digestOf(new WireWalkers()));
    }

    private static long mixed(long h, long... values) {
        for (long v : values) {
            h = 31 * h + v;
        }
        return h;
    }

    private static long digestOf(WireWalkers x) {
        long h = 17;
        for (int what = 0; what < 8; what++) {
            h = mixed(h, x.count(what));
        }
        h = mixed(h, x.fault(0), x.fault(1));
        for (int beat = 0; beat < 24; beat++) {
            h = mixed(h, x.routine(beat), x.sway(beat));
        }
        for (int place = 0; place < 41; place++) {
            h = mixed(h, x.sees(9, place));
        }
        for (int w = 0; w < x.count(0); w++) {
            h = mixed(h, x.walker(w, 0), x.walker(w, 1), x.walker(w, 2));
            for (int beat : new int[] {0, 6, 13, 23}) {
                h = mixed(h, x.at(beat, w, 0), x.at(beat, w, 1), x.lean(beat, w));
            }
            h = mixed(h, x.ends(w, 0), x.ends(w, 1), x.ends(w, 2), x.start(w, 0), x.start(w, 1), x.hold(w, 0), x.hold(w, 1));
            h = mixed(h, x.was(w, 0), x.was(w, 1), x.ask(w), x.chance(5, w, 0), x.chance(5, w, 1));
        }
        h = mixed(h, x.sum(0), x.sum(1), x.sum(2), x.who(0), x.who(1), x.bare());
        h = mixed(h, x.act(2, 0), x.act(2, 1), x.act(6, 0), x.act(6, 1), x.spare(NONE), x.spare(0), x.never());
        return mixed(h, x.shows(7, 18, 0), x.shows(7, 18, 1));
    }

    private static void refusalsChangeNothing() {
        WireWalkers x = Check.wired("as6;ab3", "fflf", 9, 4, 11);
        x.event(0, 3, 1);
        x.seen(4, 0, 1);
        x.sheet(0, 2, 3);
        x.lay(0, 2, 1, 5);
        x.get(0, 0, 0);
        long before = Check.state(x);
        x.type(0, 256);
        x.wipe(2);
        x.undo(-1);
        x.wire(0, 41);
        x.wire(1, -1);
        x.wire(2, 2);
        x.event(0, 24, 0);
        x.read(4);
        x.seen(24, 0, 0);
        x.sheet(0, 2, 61);
        x.lose(4);
        x.lay(0, 3, 1, 6);
        x.copy(0, 0, 4, 0, 3);
        x.write(2, 0);
        x.start(2, 0);
        x.shows(0, 25, 0);
        due("all as before", Check.state(x), before);
        items("sheet", x, 0, 2, 0, 5, 0);
        x.lay(0, 2, 3, 6);
        x.copy(0, 0, 0, 1, 3);
        x.sheet(0, 1, -1);
        x.lay(0, 1, 1, 6);
        due("all but the finding", Check.state(x), before);
        items("sheet", x, 0, 2, 0, 5, 0);
    }
}
