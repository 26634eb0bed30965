import java.math.BigInteger;
import java.util.Random;

/** Promises 11 and 31 to 38, the sheets: each sentence with an edge has a test of its own. */
public final class SheetEdgesTest {
    private static final int BAD = -2;
    private static final int NULL = -11, INDEX = -12, CAST = -13, STORE = -14, SIZE = -15;
    private static final int LEAST = Integer.MIN_VALUE, MOST = Integer.MAX_VALUE;
    private static final int[] NO_SHEET = {LEAST, -1, 4, 5, MOST};
    private static final int[] NO_FORM = {LEAST, -1, 3, MOST};

    public static void main(String[] args) {
        sheetsAre0To3();
        formsAre0To2();
        sheetsHave0To60Items();
        aSizeBelowZero();
        aSheetIsANewRow();
        loseTellsHowManyItHad();
        aLostSheetIsNull();
        itemsAreThereOrNot();
        anotherFormIsACast();
        layKeepsTheLowestBits();
        getRefusesByTheLeastInt();
        copyWholeSheets();
        copyOfNone();
        copyBeyondTheEnd();
        copyBelowZero();
        copyOntoItself();
        copyOfUnlikeForms();
        writeAsManyAsThereAre();
        writeToEachForm();
        writeTakesItsBounds();
        readAsManyAsAreWhole();
        readEightAtMost();
        readAsLongAsEachMayBe();
        readFromEachForm();
        readTakesItsBounds();
        countTakesItsBounds();
        countTellsTheLatestFinding();
        digestWraps();
        digestOfManyShows();
        Check.finish();
    }

    private static void due(String call, long got, long want) {
        Check.due(call, got, want);
    }

    /** A sheet of these items. */
    private static void fill(WireWalkers x, int s, int form, int... items) {
        x.sheet(s, form, items.length);
        for (int i = 0; i < items.length; i++) {
            x.lay(s, form, i, items[i]);
        }
    }

    private static void items(String what, WireWalkers x, int s, int form, int... want) {
        for (int i = 0; i < want.length; i++) {
            due(what + ": get(" + s + ", " + form + ", " + i + ")", x.get(s, form, i), want[i]);
        }
        due(what + ": no more", x.get(s, form, want.length), LEAST);
    }

    /** "SHEETS 0 .. 3" */
    private static void sheetsAre0To3() {
        WireWalkers x = new WireWalkers();
        for (int s = 0; s <= 3; s++) {
            due("sheet " + s, x.sheet(s, 0, s + 1), s + 1);
        }
        for (int s : NO_SHEET) {
            due("sheet(" + s + ")", x.sheet(s, 0, 1), BAD);
            due("lose(" + s + ")", x.lose(s), BAD);
            due("lay(" + s + ")", x.lay(s, 0, 0, 1), BAD);
            due("get(" + s + ")", x.get(s, 0, 0), LEAST);
            due("copy from " + s, x.copy(s, 0, 0, 0, 0), BAD);
            due("copy to " + s, x.copy(0, 0, s, 0, 0), BAD);
            due("read(" + s + ")", x.read(s), BAD);
        }
        due("no finding", x.count(8), 0);
        for (int s = 0; s <= 3; s++) {
            due("it stands", x.lose(s), s + 1);
        }
    }

    /** "a row of a FORM: 0 bytes, 1 shorts, 2 ints" */
    private static void formsAre0To2() {
        WireWalkers x = new WireWalkers();
        for (int form = 0; form <= 2; form++) {
            due("form " + form, x.sheet(form, form, 1), 1);
        }
        for (int form : NO_FORM) {
            due("sheet of form " + form, x.sheet(0, form, 1), BAD);
            due("lay of form " + form, x.lay(0, form, 0, 1), BAD);
            due("get of form " + form, x.get(0, form, 0), LEAST);
        }
        due("no finding", x.count(8), 0);
    }

    /** "of 0 to 60 items (0 at first)"; "BAD: SHEET, FORM, above 60" */
    private static void sheetsHave0To60Items() {
        for (int form = 0; form <= 2; form++) {
            WireWalkers x = new WireWalkers();
            for (int n = 0; n <= 60; n++) {
                due("sheet of " + n, x.sheet(0, form, n), n);
                due("as many", x.lose(0), n);
            }
            for (int n : new int[] {61, 62, MOST}) {
                due("sheet of " + n, x.sheet(0, form, n), BAD);
            }
            due("lost yet", x.lose(0), NULL);
            x.sheet(0, form, 60);
            for (int i = 0; i < 60; i++) {
                due("0 at first", x.get(0, form, i), 0);
            }
        }
    }

    /** "5 SIZE: below 0" */
    private static void aSizeBelowZero() {
        for (int n : new int[] {-1, -2, -61, LEAST}) {
            WireWalkers x = new WireWalkers();
            fill(x, 1, 1, 7, 8);
            due("sheet of " + n, x.sheet(1, 2, n), SIZE);
            due("finding", x.count(8), 5);
            items("as it was", x, 1, 1, 7, 8);
            due("BAD ahead of SIZE", x.sheet(4, 0, n), BAD);
            due("BAD ahead of SIZE", x.sheet(0, 3, n), BAD);
            due("SIZE of a lost one", x.sheet(0, 0, n), SIZE);
            due("lost yet", x.lose(0), NULL);
        }
    }

    /** "A SHEET is a new row of a FORM with n items" */
    private static void aSheetIsANewRow() {
        WireWalkers x = new WireWalkers();
        fill(x, 0, 2, 1, 2, 3, 4);
        due("as long", x.sheet(0, 2, 4), 4);
        items("new", x, 0, 2, 0, 0, 0, 0);
        fill(x, 0, 2, 1, 2, 3, 4);
        due("shorter", x.sheet(0, 2, 2), 2);
        items("new", x, 0, 2, 0, 0);
        due("longer", x.sheet(0, 2, 5), 5);
        items("new", x, 0, 2, 0, 0, 0, 0, 0);
        due("of another form", x.sheet(0, 0, 1), 1);
        due("it is no row of ints", x.get(0, 2, 0), LEAST);
        due("CAST", x.count(8), 3);
        due("none", x.sheet(0, 1, 0), 0);
        due("no item", x.get(0, 1, 0), LEAST);
        due("INDEX", x.count(8), 2);
    }

    /** "It is LOST: how many items it had. BAD; NULL." */
    private static void loseTellsHowManyItHad() {
        WireWalkers x = new WireWalkers();
        for (int n : new int[] {0, 1, 60}) {
            x.sheet(2, 1, n);
            due("had " + n, x.lose(2), n);
            due("lost", x.lose(2), NULL);
            due("finding", x.count(8), 1);
        }
        fill(x, 2, 2, 5);
        x.lose(2);
        x.sheet(2, 2, 1);
        due("made again, it is new", x.get(2, 2, 0), 0);
    }

    /** "1 NULL: the SHEET is LOST" */
    private static void aLostSheetIsNull() {
        WireWalkers x = Check.told("as0", "");
        for (int s = 0; s <= 3; s++) {
            for (int form = 0; form <= 2; form++) {
                due("lay", x.lay(s, form, 0, 0), NULL);
                due("lay far off", x.lay(s, form, -1, 0), NULL);
                due("get", x.get(s, form, 60), LEAST);
                due("finding", x.count(8), 1);
            }
            due("lose", x.lose(s), NULL);
            due("read", x.read(s), NULL);
            due("write", x.write(0, s), NULL);
            due("copy", x.copy(s, -1, s, -1, -1), NULL);
        }
        x.sheet(0, 0, 1);
        due("copy to a lost one", x.copy(0, 0, 1, 0, 1), NULL);
        due("copy from a lost one", x.copy(1, 0, 0, 0, 1), NULL);
        due("even none", x.copy(0, 0, 1, 0, 0), NULL);
    }

    /** "2 INDEX: there is no such item" */
    private static void itemsAreThereOrNot() {
        for (int n : new int[] {0, 1, 2, 59, 60}) {
            WireWalkers x = new WireWalkers();
            x.sheet(3, 1, n);
            for (int i : new int[] {LEAST, -1, n, n + 1, 60, MOST}) {
                due(n + " items: lay at " + i, x.lay(3, 1, i, 1), INDEX);
                due("finding", x.count(8), 2);
                due(n + " items: get at " + i, x.get(3, 1, i), LEAST);
            }
            if (n > 0) {
                due("first", x.lay(3, 1, 0, 5), 1);
                due("last", x.lay(3, 1, n - 1, 6), 1);
                due("last", x.get(3, 1, n - 1), 6);
                due("first", x.get(3, 1, 0), n == 1 ? 6 : 5);
            }
        }
    }

    /** "3 CAST: it has another FORM"; "BAD; NULL; CAST; INDEX." */
    private static void anotherFormIsACast() {
        for (int form = 0; form <= 2; form++) {
            WireWalkers x = new WireWalkers();
            fill(x, 0, form, 9, 8);
            for (int other = 0; other <= 2; other++) {
                if (other == form) continue;
                due("lay", x.lay(0, other, 0, 1), CAST);
                due("finding", x.count(8), 3);
                due("CAST ahead of INDEX", x.lay(0, other, 2, 1), CAST);
                due("CAST ahead of INDEX", x.lay(0, other, -1, 1), CAST);
                due("get", x.get(0, other, 0), LEAST);
                due("CAST ahead of INDEX", x.get(0, other, 2), LEAST);
                due("finding", x.count(8), 3);
            }
            items("as it was", x, 0, form, 9, 8);
        }
    }

    /** "Item i becomes v (the lowest bits that it has): 1." */
    private static void layKeepsTheLowestBits() {
        int[] laid = {0, 1, -1, 127, 128, 255, 256, -128, -129, 32767, 32768, 65535, 65536, -32768, -32769, MOST, LEAST};
        WireWalkers x = new WireWalkers();
        for (int form = 0; form <= 2; form++) {
            x.sheet(form, form, 2);
            for (int v : laid) {
                due("lay " + v, x.lay(form, form, 1, v), 1);
                due("get " + v, x.get(form, form, 1), form == 0 ? (byte) v : form == 1 ? (short) v : v);
                due("another item", x.get(form, form, 0), 0);
            }
        }
    }

    /** "BAD: the least int; so are NULL, CAST, INDEX (count() 8 tells)." */
    private static void getRefusesByTheLeastInt() {
        WireWalkers x = new WireWalkers();
        due("BAD", x.get(4, 0, 0), LEAST);
        due("BAD", x.get(0, 3, 0), LEAST);
        due("BAD is no finding", x.count(8), 0);
        due("NULL", x.get(0, 0, 0), LEAST);
        due("finding", x.count(8), 1);
        x.sheet(0, 0, 1);
        due("CAST", x.get(0, 1, 0), LEAST);
        due("finding", x.count(8), 3);
        due("INDEX", x.get(0, 0, 1), LEAST);
        due("finding", x.count(8), 2);
        fill(x, 1, 2, LEAST);
        due("the least int itself", x.get(1, 2, 0), LEAST);
        due("is no finding", x.count(8), 2);
    }

    /** "n items of SHEET s, from i on, come to SHEET t, from j on: 1." */
    private static void copyWholeSheets() {
        for (int form = 0; form <= 2; form++) {
            WireWalkers x = new WireWalkers();
            x.sheet(0, form, 60);
            x.sheet(3, form, 60);
            for (int i = 0; i < 60; i++) {
                x.lay(0, form, i, i + 1);
            }
            due("all sixty", x.copy(0, 0, 3, 0, 60), 1);
            for (int i = 0; i < 60; i++) {
                due("sixty", x.get(3, form, i), i + 1);
            }
            due("the first to the last", x.copy(0, 0, 3, 59, 1), 1);
            due("the last to the first", x.copy(0, 59, 3, 0, 1), 1);
            due("last", x.get(3, form, 59), 1);
            due("first", x.get(3, form, 0), 60);
            due("second", x.get(3, form, 1), 2);
            due("the other one stands", x.get(0, form, 59), 60);
        }
    }

    private static void copyOfNone() {
        WireWalkers x = new WireWalkers();
        fill(x, 0, 2, 1, 2);
        fill(x, 1, 2, 3);
        x.sheet(2, 2, 0);
        due("none of two", x.copy(0, 0, 1, 0, 0), 1);
        due("none, at both ends", x.copy(0, 2, 1, 1, 0), 1);
        due("none of none", x.copy(2, 0, 2, 0, 0), 1);
        due("none behind the end", x.copy(0, 3, 1, 0, 0), INDEX);
        due("none behind the end", x.copy(0, 0, 1, 2, 0), INDEX);
        due("one of none", x.copy(2, 0, 0, 0, 1), INDEX);
        due("one to none", x.copy(0, 0, 2, 0, 1), INDEX);
        items("as it was", x, 1, 2, 3);
    }

    /** "INDEX: below 0, not so many" */
    private static void copyBeyondTheEnd() {
        int[][] far = {{0, 0, 4}, {1, 0, 3}, {3, 0, 1}, {0, 0, 3}, {0, 1, 2}, {0, 2, 1}, {0, 0, MOST}, {MOST, 0, 1},
            {0, MOST, 1}, {MOST, MOST, MOST}, {1, 1, MOST}, {2, 0, MOST - 1}};
        for (int[] f : far) {
            WireWalkers x = new WireWalkers();
            fill(x, 0, 1, 1, 2, 3);
            fill(x, 1, 1, 8, 9);
            due("copy " + f[0] + ", " + f[1] + ", " + f[2], x.copy(0, f[0], 1, f[1], f[2]), INDEX);
            due("finding", x.count(8), 2);
            items("as it was", x, 1, 1, 8, 9);
            items("as it was", x, 0, 1, 1, 2, 3);
        }
        WireWalkers x = new WireWalkers();
        fill(x, 0, 1, 1, 2, 3);
        fill(x, 1, 1, 8, 9);
        due("just so many", x.copy(0, 1, 1, 0, 2), 1);
        items("came", x, 1, 1, 2, 3);
    }

    private static void copyBelowZero() {
        int[][] below = {{-1, 0, 1}, {0, -1, 1}, {0, 0, -1}, {-1, -1, -1}, {LEAST, 0, 1}, {0, LEAST, 1}, {0, 0, LEAST},
            {1, 0, -1}, {0, 1, -1}, {-1, 0, 0}, {0, -1, 0}, {LEAST, 0, LEAST}, {MOST, 0, LEAST}};
        for (int[] b : below) {
            WireWalkers x = new WireWalkers();
            fill(x, 0, 0, 1, 2, 3);
            fill(x, 1, 0, 8, 9);
            due("copy " + b[0] + ", " + b[1] + ", " + b[2], x.copy(0, b[0], 1, b[1], b[2]), INDEX);
            due("onto itself", x.copy(0, b[0], 0, b[1], b[2]), INDEX);
            items("as it was", x, 1, 0, 8, 9);
            items("as it was", x, 0, 0, 1, 2, 3);
        }
    }

    /** "(perhaps s, as they were)" */
    private static void copyOntoItself() {
        WireWalkers x = new WireWalkers();
        fill(x, 0, 0, 1, 2, 3, 4, 5);
        due("up", x.copy(0, 0, 0, 1, 4), 1);
        items("up", x, 0, 0, 1, 1, 2, 3, 4);
        due("down", x.copy(0, 2, 0, 0, 3), 1);
        items("down", x, 0, 0, 2, 3, 4, 3, 4);
        due("in place", x.copy(0, 0, 0, 0, 5), 1);
        items("in place", x, 0, 0, 2, 3, 4, 3, 4);
    }

    /** "BAD: the SHEETS; NULL: s, t; STORE; INDEX" */
    private static void copyOfUnlikeForms() {
        WireWalkers x = new WireWalkers();
        for (int form = 0; form <= 2; form++) {
            fill(x, form, form, 7, 7);
        }
        for (int s = 0; s <= 2; s++) {
            for (int t = 0; t <= 2; t++) {
                due("copy " + s + " to " + t, x.copy(s, 0, t, 0, 1), s == t ? 1 : STORE);
                if (s == t) continue;
                due("finding", x.count(8), 4);
                due("even none", x.copy(s, 0, t, 0, 0), STORE);
                due("STORE ahead of INDEX", x.copy(s, -1, t, 0, 1), STORE);
                due("STORE ahead of INDEX", x.copy(s, 0, t, 3, 1), STORE);
            }
            due("NULL ahead of INDEX", x.copy(s, -1, 3, 0, 1), NULL);
            due("NULL ahead of INDEX", x.copy(3, -1, s, 0, 1), NULL);
            due("BAD ahead of NULL", x.copy(3, 0, 4, 0, 1), BAD);
            due("BAD ahead of NULL", x.copy(-1, 0, 3, 0, 1), BAD);
        }
    }

    /** "LEAN of one behind BEATS 0 on comes to a SHEET from item 0 on, as many as there are items, 24 at most" */
    private static void writeAsManyAsThereAre() {
        int[] leans = {0, -5, -6, -7, -8, -9, -10, -11, -12, -13, -14, -15, -16, -17, -18, -19, -20, -20, -20, -20, -20,
            -20, -20, -20};
        for (int n : new int[] {0, 1, 2, 23, 24, 25, 60}) {
            WireWalkers x = Check.wired("as9", "l", 40, 0, 20);
            x.sheet(1, 2, n);
            for (int i = 0; i < n; i++) {
                x.lay(1, 2, i, 99);
            }
            due("written to " + n, x.write(0, 1), Math.min(n, 24));
            for (int i = 0; i < n; i++) {
                due(n + " items: item " + i, x.get(1, 2, i), i < 24 ? leans[i] : 99);
            }
            due("as many items as before", x.lose(1), n);
        }
    }

    private static void writeToEachForm() {
        for (int form = 0; form <= 2; form++) {
            WireWalkers x = Check.wired("as0;cs9", "", 40, 0, 20);
            x.event(0, 3, 0);
            for (int k = 0; k < 7; k++) {
                x.event(0, 3, 0);
            }
            x.sheet(0, form, 5);
            due("write", x.write(1, 0), 5);
            items("leans", x, 0, form, 0, 0, 0, -25, -25);
        }
    }

    /** "BAD; NULL." */
    private static void writeTakesItsBounds() {
        WireWalkers x = Check.wired("as9;bs0", "l", 40, 0, 20);
        fill(x, 0, 0, 9, 9);
        for (int w : new int[] {LEAST, -1, 2, 6, MOST}) {
            due("walker " + w, x.write(w, 0), BAD);
            due("BAD ahead of NULL", x.write(w, 1), BAD);
        }
        for (int s : NO_SHEET) {
            due("sheet " + s, x.write(0, s), BAD);
        }
        due("no finding", x.count(8), 0);
        items("as it was", x, 0, 0, 9, 9);
        due("NULL", x.write(0, 1), NULL);
        due("the last one", x.write(1, 0), 2);
        items("leans", x, 0, 0, 0, 0);
        due("nobody", new WireWalkers().write(0, 0), BAD);
    }

    /** "EVENTS from a SHEET: its items, three for each, as many as are whole": how many" */
    private static void readAsManyAsAreWhole() {
        for (int n = 0; n <= 30; n++) {
            WireWalkers x = Check.wired("as0", "", 40, 0, 20);
            x.sheet(0, 0, n);
            due(n + " items", x.read(0), Math.min(n / 3, 8));
            due(n + " items: events", x.count(3), Math.min(n / 3, 8));
        }
        WireWalkers x = Check.wired("as0", "", 40, 0, 20);
        fill(x, 0, 0, 0, 2, 1, 0, 3);
        due("one is whole", x.read(0), 1);
        due("a gust in 2", x.lean(2, 0), 4);
        due("none in 3", x.lean(3, 0), 5);
        items("the sheet stands", x, 0, 0, 0, 2, 1, 0, 3);
    }

    /** "EVENTS, 8 at most": a ninth may not be. */
    private static void readEightAtMost() {
        for (int had = 0; had <= 8; had++) {
            WireWalkers x = new WireWalkers();
            for (int k = 0; k < had; k++) {
                x.event(2, 0, 0);
            }
            x.sheet(0, 2, 60);
            due("room for " + (8 - had), x.read(0), 8 - had);
            due("eight", x.count(3), 8);
            due("no room", x.read(0), 0);
            due("no room", x.event(0, 0, 0), -4);
        }
    }

    /** "as long as each may be": as event() takes it; none behind the first that may not be. */
    private static void readAsLongAsEachMayBe() {
        int[][] none = {{-1, 0, 0}, {3, 0, 0}, {0, -1, 0}, {0, 24, 0}, {0, 0, -1}, {0, 0, 6}, {2, 0, 6}, {1, 0, 6},
            {LEAST, 0, 0}, {0, MOST, 0}, {0, 0, MOST}};
        for (int[] e : none) {
            for (int ahead = 0; ahead <= 7; ahead++) {
                WireWalkers x = Check.wired("as0", "", 40, 0, 20);
                int[] rows = new int[27];
                for (int k = 0; k < 27; k += 3) {
                    rows[k + 1] = 23;
                    rows[k + 2] = 5;
                }
                System.arraycopy(e, 0, rows, 3 * ahead, 3);
                fill(x, 1, 2, rows);
                due("up to one that may not be", x.read(1), ahead);
                due("so many events", x.count(3), ahead);
                due("no finding", x.count(8), 0);
            }
        }
        int[][] may = {{0, 0, 0}, {2, 23, 5}, {1, 23, 5}, {2, 0, 0}};
        for (int[] e : may) {
            WireWalkers x = new WireWalkers();
            fill(x, 1, 2, e);
            due("may be", x.read(1), 1);
        }
    }

    private static void readFromEachForm() {
        for (int form = 0; form <= 2; form++) {
            WireWalkers x = Check.wired("as9", "fffl", 40, 0, 20);
            fill(x, 2, form, 2, 2, 5, 1, 4, 0, 0, 3, 3);
            due("three", x.read(2), 3);
            due("the cheer", x.at(2, 0, 1), 3);
            due("the gust", x.lean(3, 0), 4);
            due("the drop", x.lean(4, 0), 4);
            due("as told one by one", x.back(), 2);
            due("the gust was the last", x.lean(3, 0), 0);
        }
        WireWalkers x = new WireWalkers();
        fill(x, 0, 0, 256, 512, 1024);
        due("bytes of 0", x.read(0), 1);
        fill(x, 0, 2, 256, 512, 1024);
        due("ints are as they are", x.read(0), 0);
    }

    /** "BAD; NULL." */
    private static void readTakesItsBounds() {
        WireWalkers x = new WireWalkers();
        for (int s : NO_SHEET) {
            due("sheet " + s, x.read(s), BAD);
        }
        due("no finding", x.count(8), 0);
        due("lost", x.read(3), NULL);
        due("finding", x.count(8), 1);
        x.sheet(3, 1, 60);
        due("there", x.read(3), 8);
    }

    /** "0 WALKERS, .. 8 the number of the latest FINDING. BAD." */
    private static void countTakesItsBounds() {
        WireWalkers x = Check.wired("as0;bb1;co2;ds3;eb4;xo9", "fwlrfwlrfwlrfwlrfwlrfwlr", 40, 9, 20);
        for (int k = 0; k < 8; k++) {
            x.event(2, 0, 0);
            x.seen(0, 0, 0);
        }
        int[] most = {6, 24, 47, 8, 40, 9, 20, 8, 0};
        for (int what = 0; what <= 8; what++) {
            due("count(" + what + ")", x.count(what), most[what]);
        }
        x.sheet(0, 0, -1);
        due("count(8)", x.count(8), 5);
        for (int what : new int[] {LEAST, -1, 9, 10, MOST}) {
            due("count(" + what + ")", x.count(what), BAD);
        }
    }

    /** "8 the number of the latest FINDING (0 before any)" */
    private static void countTellsTheLatestFinding() {
        WireWalkers x = new WireWalkers();
        due("before any", x.count(8), 0);
        x.type(2, 0);
        x.undo(0);
        x.back();
        due("refusals that are none", x.count(8), 0);
        x.lose(0);
        due("NULL", x.count(8), 1);
        x.sheet(0, 0, 1);
        due("NULL yet", x.count(8), 1);
        x.lay(0, 0, 1, 0);
        due("INDEX", x.count(8), 2);
        x.lay(0, 1, 1, 0);
        due("CAST", x.count(8), 3);
        x.sheet(1, 1, 1);
        x.copy(0, 0, 1, 0, 1);
        due("STORE", x.count(8), 4);
        x.sheet(0, 0, -1);
        due("SIZE", x.count(8), 5);
        x.digest();
        x.sheet(0, 0, 61);
        x.get(0, 0, 0);
        due("SIZE yet", x.count(8), 5);
        x.read(2);
        due("NULL", x.count(8), 1);
    }

    /** "as longs that wrap": the same sum with numbers of any size, cut to 64 bits at the end. */
    private static void digestWraps() {
        WireWalkers x = Check.wired("as0;bb1;co2;ds3;eb4;xo9", "fwlrf", 9, 4, 11);
        x.event(0, 3, 1);
        x.seen(9, 0, 2);
        due("digest", x.digest(), digestOf(x).longValue());
        due("of a new one", new WireWalkers().digest(), digestOf(new WireWalkers()).longValue());
        WireWalkers lots = Check.wired("as0", "", 8, 0, 20);
        due("the 18th lot tells", lots.shows(7, 17, 0) * 10 + lots.shows(7, 18, 0), 10);
        due("so shows() of 18 are in it", lots.digest(), digestOf(lots).longValue());
        long first = x.digest();
        x.lose(0);
        due("a finding is not in it", x.digest(), first);
        x.sheet(0, 0, 9);
        due("a sheet is not in it", x.digest(), first);
    }

    /** "h becomes 31 h and each of: ..": shows by chance, so that no two of its parts are always alike. */
    private static void digestOfManyShows() {
        for (int seed = 0; seed < 60; seed++) {
            Random random = new Random(seed);
            WireWalkers x = Check.wired(Check.walkersByChance(random), Check.routineByChance(random), 5 + random.nextInt(12),
                random.nextInt(7), 3 + random.nextInt(18));
            for (int k = random.nextInt(6); k > 0; k--) {
                x.event(random.nextInt(3), random.nextInt(14), random.nextInt(6));
            }
            if (random.nextBoolean()) {
                x.seen(random.nextInt(24), random.nextInt(3), random.nextInt(4));
            }
            if (seed % 10 == 0) x.type(0, '!');
            if (seed % 10 == 5) x.type(1, '!');
            due("digest of show " + seed, x.digest(), digestOf(x).longValue());
        }
    }

    private static BigInteger mixed(BigInteger h, long... values) {
        for (long v : values) {
            h = h.multiply(BigInteger.valueOf(31)).add(BigInteger.valueOf(v));
        }
        return h;
    }

    private static BigInteger digestOf(WireWalkers x) {
        BigInteger h = BigInteger.valueOf(17);
        for (int what = 0; what <= 7; what++) h = mixed(h, x.count(what));
        h = mixed(h, x.fault(0), x.fault(1));
        for (int beat = 0; beat <= 23; beat++) h = mixed(h, x.routine(beat), x.sway(beat));
        for (int place = 0; place <= 40; place++) h = mixed(h, x.sees(9, place));
        for (int w = 0; w < x.count(0); w++) {
            h = mixed(h, x.walker(w, 0), x.walker(w, 1), x.walker(w, 2));
            for (int beat : new int[] {0, 6, 13, 23}) {
                h = mixed(h, x.at(beat, w, 0), x.at(beat, w, 1), x.lean(beat, w));
            }
            h = mixed(h, x.ends(w, 0), x.ends(w, 1), x.ends(w, 2), x.start(w, 0), x.start(w, 1));
            h = mixed(h, x.hold(w, 0), x.hold(w, 1), x.was(w, 0), x.was(w, 1), x.ask(w));
            h = mixed(h, x.chance(5, w, 0), x.chance(5, w, 1));
        }
        h = mixed(h, x.sum(0), x.sum(1), x.sum(2), x.who(0), x.who(1), x.bare());
        h = mixed(h, x.act(2, 0), x.act(2, 1), x.act(6, 0), x.act(6, 1));
        return mixed(h, x.spare(-1), x.spare(0), x.never(), x.shows(7, 18, 0), x.shows(7, 18, 1));
    }
}
