/** Promises 2 to 7 and the terms of the texts: each sentence with an edge has a test of its own. */
public final class TextEdgesTest {
    private static final int NONE = -1, BAD = -2, NOT = -3, FULL = -4;
    private static final int LEAST = Integer.MIN_VALUE, MOST = Integer.MAX_VALUE;
    private static final int[] NO_TEXT = {LEAST, -1, 2, 3, MOST};
    private static final String SIX = "as0;bb1;co2;ds3;eb4;xo9";
    private static final String ROUTINE = "fwlrfwlrfwlrfwlrfwlrfwlr";

    public static void main(String[] args) {
        walkersTakeUpTo23Bytes();
        routineTakesUpTo24Bytes();
        bytesAre0To255();
        textsAre0And1();
        sixWalkersAtMost();
        startIsALetterAToX();
        sortIsSBOrO();
        poleIsAFigure();
        aSemicolonIsBetween();
        routineIsFWLR();
        forwardOnLaterBeats();
        anEmptyTextIsWell();
        aTextNotEndedHasItsFaultAtItsEnd();
        theFaultIsTheFirst();
        withAFaultWalkersAreAsIfEmpty();
        withAFaultTheRoutineIsAsIfEmpty();
        wipeTellsHowManyBytesItHad();
        undoTakesTheLastByte();
        undoOfAnEmptyOneIsNot();
        walkerTakesThoseThereAre();
        routineTakesBeats();
        Check.finish();
    }

    private static void due(String call, long got, long want) {
        Check.due(call, got, want);
    }

    /** "WALKERS are a text of up to 23 bytes"; "BAD; FULL." */
    private static void walkersTakeUpTo23Bytes() {
        WireWalkers x = new WireWalkers();
        for (int k = 1; k <= 23; k++) {
            due("walkers: byte " + k, x.type(0, 'q'), k);
        }
        for (int b : new int[] {0, 'a', ';', 255}) {
            due("walkers: byte 24", x.type(0, b), FULL);
        }
        due("BAD ahead of FULL", x.type(0, 256), BAD);
        due("BAD ahead of FULL", x.type(0, -1), BAD);
        due("as many as before", x.count(2), 23);
        due("the routine has room", x.type(1, 'f'), 1);
        due("undone", x.undo(0), 22);
        due("room for one again", x.type(0, 'q'), 23);
        due("and for no more", x.type(0, 'q'), FULL);
    }

    /** "THE ROUTINE is a text of up to 24 bytes" */
    private static void routineTakesUpTo24Bytes() {
        WireWalkers x = new WireWalkers();
        for (int k = 1; k <= 24; k++) {
            due("routine: byte " + k, x.type(1, 'r'), k);
        }
        for (int b : new int[] {0, 'f', 255}) {
            due("routine: byte 25", x.type(1, b), FULL);
        }
        due("BAD ahead of FULL", x.type(1, 256), BAD);
        due("its last counts", x.routine(23), 3);
        due("24 bytes", x.count(1), 24);
        due("the walkers have room", x.type(0, 'a'), 1);
        due("wiped", x.wipe(1), 24);
        due("room again", x.type(1, 'f'), 1);
    }

    /** "A byte (0 to 255) comes behind a text" */
    private static void bytesAre0To255() {
        for (int text = 0; text <= 1; text++) {
            WireWalkers x = new WireWalkers();
            for (int b : new int[] {LEAST, -256, -1, 256, 353, MOST}) {
                due("type(" + text + ", " + b + ")", x.type(text, b), BAD);
            }
            due("nothing came", x.count(2), 0);
            due("byte 0", x.type(text, 0), 1);
            due("byte 255", x.type(text, 255), 2);
        }
    }

    /** text 0, text 1: "no such thing" is BAD. */
    private static void textsAre0And1() {
        WireWalkers x = Check.told("as0", "w");
        for (int text : NO_TEXT) {
            due("type(" + text + ")", x.type(text, 'a'), BAD);
            due("wipe(" + text + ")", x.wipe(text), BAD);
            due("undo(" + text + ")", x.undo(text), BAD);
            due("fault(" + text + ")", x.fault(text), BAD);
        }
        due("all bytes are there", x.count(2), 4);
    }

    /** "6 at most (0 on)"; a seventh finds no byte free to begin with. */
    private static void sixWalkersAtMost() {
        WireWalkers x = Check.told(SIX, "");
        due("six", x.count(0), 6);
        due("well", x.fault(0), NONE);
        due("the last one's beat", x.walker(5, 0), 23);
        due("no seventh", x.walker(6, 0), BAD);
        due("no byte more", x.type(0, ';'), FULL);
        due("well yet", x.fault(0), NONE);
        due("six yet", x.count(0), 6);
        due("five and what is not ended", Check.told(SIX.substring(0, 20), "").fault(0), 20);
        due("five", Check.told(SIX.substring(0, 19), "").count(0), 5);
        due("one", Check.told(SIX.substring(0, 3), "").count(0), 1);
    }

    /** "a letter a to x, the BEAT (0 to 23) in which one starts" */
    private static void startIsALetterAToX() {
        for (int b = 0; b <= 255; b++) {
            WireWalkers x = new WireWalkers();
            x.type(0, b);
            boolean may = b >= 'a' && b <= 'x';
            due("byte " + b + " at first", x.fault(0), may ? 1 : 0);
            x.type(0, 's');
            x.type(0, '0');
            due("starts by byte " + b, x.walker(0, 0), may ? b - 'a' : BAD);
        }
    }

    /** "s (steady), b (bold) or o (old)" */
    private static void sortIsSBOrO() {
        for (int b = 0; b <= 255; b++) {
            WireWalkers x = Check.told("a", "");
            x.type(0, b);
            int sort = b == 's' ? 0 : b == 'b' ? 1 : b == 'o' ? 2 : BAD;
            due("byte " + b + " behind a", x.fault(0), sort == BAD ? 1 : 2);
            x.type(0, '0');
            due("sort by byte " + b, x.walker(0, 1), sort);
        }
    }

    /** "and a figure 0 to 9, the POLE" */
    private static void poleIsAFigure() {
        for (int b = 0; b <= 255; b++) {
            WireWalkers x = Check.told("as", "");
            x.type(0, b);
            boolean may = b >= '0' && b <= '9';
            due("byte " + b + " behind as", x.fault(0), may ? NONE : 2);
            due("pole by byte " + b, x.walker(0, 2), may ? b - '0' : BAD);
        }
    }

    /** "with ; between them" */
    private static void aSemicolonIsBetween() {
        for (int b = 0; b <= 255; b++) {
            WireWalkers x = Check.told("as0", "");
            x.type(0, b);
            due("byte " + b + " behind as0", x.fault(0), b == ';' ? 4 : 3);
            Check.tell(x, 0, "bb1");
            due("walkers with byte " + b + " between", x.count(0), b == ';' ? 2 : 0);
        }
    }

    /** "f (forward), w (wait), l (left) or r (right)" */
    private static void routineIsFWLR() {
        for (int b = 0; b <= 255; b++) {
            WireWalkers x = Check.told("", "r");
            x.type(1, b);
            int move = b == 'f' ? 0 : b == 'w' ? 1 : b == 'l' ? 2 : b == 'r' ? 3 : BAD;
            due("routine with byte " + b, x.fault(1), move == BAD ? 1 : NONE);
            due("what byte " + b + " is", x.routine(1), move == BAD ? 0 : move);
            due("ahead of byte " + b, x.routine(0), move == BAD ? 0 : 3);
            due("bytes with " + b, x.count(1), move == BAD ? 0 : 2);
        }
    }

    /** "f on later ones" */
    private static void forwardOnLaterBeats() {
        for (int many = 0; many <= 24; many++) {
            WireWalkers x = Check.told("", "rrrrrrrrrrrrrrrrrrrrrrrr".substring(0, many));
            for (int beat = 0; beat < 24; beat++) {
                due(many + " bytes: routine(" + beat + ")", x.routine(beat), beat < many ? 3 : 0);
            }
        }
    }

    /** "an empty one is well" */
    private static void anEmptyTextIsWell() {
        WireWalkers x = new WireWalkers();
        due("walkers", x.fault(0), NONE);
        due("routine", x.fault(1), NONE);
        Check.tell(x, 0, "?");
        Check.tell(x, 1, "?");
        due("walkers", x.fault(0), 0);
        due("routine", x.fault(1), 0);
        x.wipe(0);
        x.undo(1);
        due("walkers, wiped", x.fault(0), NONE);
        due("routine, undone", x.fault(1), NONE);
    }

    /** "of one that is not ended, its end" */
    private static void aTextNotEndedHasItsFaultAtItsEnd() {
        for (int many = 0; many <= 23; many++) {
            boolean ended = many == 0 || many % 4 == 3;
            WireWalkers x = Check.told(SIX.substring(0, many), "");
            due(many + " bytes of walkers", x.fault(0), ended ? NONE : many);
            due(many + " bytes: walkers", x.count(0), ended ? (many + 1) / 4 : 0);
        }
        for (int many = 0; many <= 24; many++) {
            due(many + " bytes of the routine", Check.told("", ROUTINE.substring(0, many)).fault(1), NONE);
        }
    }

    /** "The FAULT of a text is the place of the first byte with which it cannot go on" */
    private static void theFaultIsTheFirst() {
        for (int place = 0; place < 23; place++) {
            WireWalkers x = Check.told(SIX.substring(0, place) + "!" + SIX.substring(place + 1), "");
            due("walkers, fault at " + place, x.fault(0), place);
            due("walkers, fault at " + place, x.count(0), 0);
        }
        for (int place = 0; place < 24; place++) {
            WireWalkers x = Check.told("", ROUTINE.substring(0, place) + "!" + ROUTINE.substring(place + 1));
            due("routine, fault at " + place, x.fault(1), place);
            due("routine, fault at " + place, x.count(1), 0);
        }
        due("of two the first", Check.told("as!;!", "").fault(0), 2);
        due("of two the first", Check.told("", "f!w!").fault(1), 1);
    }

    /** "With a FAULT a text is as if it was empty." */
    private static void withAFaultWalkersAreAsIfEmpty() {
        WireWalkers x = Check.told("as0;bb1;c", "w");
        due("no walkers", x.count(0), 0);
        due("no walker", x.walker(0, 0), BAD);
        due("nobody at", x.at(5, 0, 0), BAD);
        due("nobody leans", x.lean(5, 0), LEAST);
        due("nobody ends", x.ends(0, 0), BAD);
        due("nobody is over", x.sum(0), 0);
        due("nobody went on", x.sum(2), 0);
        due("bare", x.bare(), 24);
        due("no start", x.start(0, 0), BAD);
        due("no hold", x.hold(0, 0), BAD);
        due("no poles", x.was(0, 0), BAD);
        due("no ask", x.ask(0), BAD);
        due("no chance", x.chance(0, 0, 0), Check.LONG_BAD);
        due("the routine stands", x.routine(0), 1);
        due("the bytes stand", x.count(2), 10);
        due("undone", x.undo(0), 8);
        due("yet not ended", x.count(0), 0);
        due("undone", x.undo(0), 7);
        due("well again", x.count(0), 2);
        due("on again", x.at(5, 0, 0), 1);
    }

    private static void withAFaultTheRoutineIsAsIfEmpty() {
        WireWalkers x = Check.told("as0", "wwwx");
        due("no bytes of it", x.count(1), 0);
        due("forward", x.routine(0), 0);
        due("goes on", x.at(3, 0, 1), 3);
        due("the walkers stand", x.count(0), 1);
        due("the bytes stand", x.count(2), 7);
        due("undone", x.undo(1), 3);
        due("well again", x.count(1), 3);
        due("waits again", x.at(3, 0, 1), 0);
    }

    /** "A text is empty: how many bytes it had." */
    private static void wipeTellsHowManyBytesItHad() {
        WireWalkers x = Check.told(SIX, ROUTINE);
        due("full walkers", x.wipe(0), 23);
        due("empty walkers", x.wipe(0), 0);
        due("the routine stands", x.count(2), 24);
        due("full routine", x.wipe(1), 24);
        due("empty routine", x.wipe(1), 0);
        Check.tell(x, 0, "as");
        due("bytes of one with a fault", x.wipe(0), 2);
    }

    /** "The last byte of a text is undone: how many are left." */
    private static void undoTakesTheLastByte() {
        WireWalkers x = Check.told(SIX, ROUTINE);
        for (int left = 22; left >= 0; left--) {
            due("walkers left", x.undo(0), left);
        }
        due("the routine stands", x.count(1), 24);
        for (int left = 23; left >= 0; left--) {
            due("of the routine left", x.undo(1), left);
            due("forward again", x.routine(left), 0);
        }
        due("nothing is left", x.count(2), 0);
    }

    /** "BAD; NOT: it is empty." */
    private static void undoOfAnEmptyOneIsNot() {
        WireWalkers x = new WireWalkers();
        due("walkers", x.undo(0), NOT);
        due("routine", x.undo(1), NOT);
        due("BAD ahead of NOT", x.undo(2), BAD);
        due("BAD ahead of NOT", x.undo(-1), BAD);
        x.type(1, 'f');
        due("only the other one", x.undo(0), NOT);
        due("one byte", x.undo(1), 0);
        due("none", x.undo(1), NOT);
    }

    /** "The BEAT (what = 0), sort (1), POLE (2) of one of WALKERS as told. BAD." */
    private static void walkerTakesThoseThereAre() {
        for (int what = -1; what <= 3; what++) {
            due("nobody at all", new WireWalkers().walker(0, what), BAD);
        }
        WireWalkers x = Check.told("as0;xo9", "");
        int[] least = {0, 0, 0};
        int[] most = {23, 2, 9};
        for (int what = 0; what <= 2; what++) {
            due("least", x.walker(0, what), least[what]);
            due("greatest", x.walker(1, what), most[what]);
            for (int w : new int[] {LEAST, -1, 2, 6, MOST}) {
                due("walker(" + w + ", " + what + ")", x.walker(w, what), BAD);
            }
        }
        for (int what : new int[] {LEAST, -1, 3, MOST}) {
            due("walker(0, " + what + ")", x.walker(0, what), BAD);
        }
    }

    /** "What is in THE ROUTINE at a BEAT of one's own" */
    private static void routineTakesBeats() {
        WireWalkers x = Check.told("", ROUTINE);
        due("routine(0)", x.routine(0), 0);
        due("routine(23)", x.routine(23), 3);
        for (int beat : new int[] {LEAST, -1, 24, MOST}) {
            due("routine(" + beat + ")", x.routine(beat), BAD);
        }
    }
}
