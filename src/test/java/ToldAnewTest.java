import java.util.ArrayList;
import java.util.List;
import java.util.Random;

/** What is told, undone and told again, with all asked for in between: an object that is told the same at once is alike. */
public final class ToldAnewTest {
    private final WireWalkers x = new WireWalkers();
    private final StringBuilder[] texts = {new StringBuilder(), new StringBuilder()};
    private final int[] wire = {20, 2, 8};
    private final List<int[]> events = new ArrayList<>();
    private final List<int[]> seen = new ArrayList<>();

    public static void main(String[] args) {
        new ToldAnewTest().byteByByte();
        new ToldAnewTest().wireByWire();
        new ToldAnewTest().eventByEvent();
        new ToldAnewTest().fromSheets();
        new ToldAnewTest().seenAndForgotten();
        new ToldAnewTest().fewerWalkers();
        for (int seed = 0; seed < 40; seed++) {
            new ToldAnewTest().byChance(new Random(seed));
        }
        Check.finish();
    }

    /** The digest asks for nearly all; the rest is asked of what was told last. */
    private void alike(String what) {
        WireWalkers fresh = Check.wired(texts[0].toString(), texts[1].toString(), wire[0], wire[1], wire[2]);
        for (int[] e : events) fresh.event(e[0], e[1], e[2]);
        for (int[] s : seen) fresh.seen(s[0], s[1], s[2]);
        Check.due(what + ": digest()", x.digest(), fresh.digest());
        Check.due(what + ": spare(1)", x.spare(1), fresh.spare(1));
        Check.due(what + ": sees(3, 2)", x.sees(3, 2), fresh.sees(3, 2));
        Check.due(what + ": ends(0, 2)", x.ends(0, 2), fresh.ends(0, 2));
    }

    private void type(int text, String bytes) {
        for (char b : bytes.toCharArray()) {
            texts[text].append(b);
            Check.due("type", x.type(text, b), texts[text].length());
            alike("typed " + texts[text]);
        }
    }

    private void undo(int text, int many) {
        for (int k = 0; k < many && texts[text].length() > 0; k++) {
            texts[text].setLength(texts[text].length() - 1);
            Check.due("undo", x.undo(text), texts[text].length());
            alike("undone to " + texts[text]);
        }
    }

    private void wipe(int text) {
        Check.due("wipe", x.wipe(text), texts[text].length());
        texts[text].setLength(0);
        alike("wiped " + text);
    }

    private void wire(int what, int v) {
        Check.due("wire", x.wire(what, v), wire[what]);
        wire[what] = v;
        alike("wire " + what + " is " + v);
    }

    private void event(int kind, int beat, int number) {
        events.add(new int[] {kind, beat, number});
        Check.due("event", x.event(kind, beat, number), events.size());
        alike("event " + events.size());
    }

    private void back() {
        events.remove(events.size() - 1);
        Check.due("back", x.back(), events.size());
        alike("back to " + events.size());
    }

    private void see(int beat, int walker, int is) {
        seen.add(new int[] {beat, walker, is});
        Check.due("seen", x.seen(beat, walker, is), seen.size());
        alike("seen " + seen.size());
    }

    private void byteByByte() {
        type(0, "as6;bb3;co9");
        type(1, "fflfrw!");
        undo(1, 3);
        undo(0, 11);
        type(0, "ab0");
        wipe(1);
        wipe(0);
        type(0, "bs9");
    }

    private void wireByWire() {
        type(0, "as6;bb3");
        type(1, "flr");
        for (int v : new int[] {5, 8, 40, 20}) wire(0, v);
        for (int v : new int[] {0, 9, 4, 2}) wire(1, v);
        for (int v : new int[] {3, 20, 9, 8}) wire(2, v);
    }

    private void eventByEvent() {
        type(0, "as6;bo9");
        type(1, "fflfr");
        wire(0, 9);
        int[][] told = {{0, 3, 1}, {1, 2, 1}, {2, 4, 0}, {0, 5, 2}, {0, 6, 4}, {2, 1, 1}, {1, 1, 0}, {0, 7, 3}};
        for (int[] e : told) event(e[0], e[1], e[2]);
        for (int k = 0; k < 8; k++) back();
        event(0, 2, 0);
    }

    /** read() is telling too; a sheet that changes afterwards is not. */
    private void fromSheets() {
        type(0, "as6;bo9");
        type(1, "fflfr");
        wire(0, 9);
        int[] items = {0, 3, 1, 2, 4, 0, 1, 1, 1};
        x.sheet(0, 1, 9);
        for (int i = 0; i < 9; i++) {
            x.lay(0, 1, i, items[i]);
        }
        alike("laid, not read");
        Check.due("read", x.read(0), 3);
        for (int k = 0; k < 3; k++) {
            events.add(new int[] {items[3 * k], items[3 * k + 1], items[3 * k + 2]});
        }
        alike("read");
        x.sheet(0, 1, 9);
        x.lose(0);
        alike("the sheet is lost");
        for (int k = 0; k < 3; k++) back();
    }

    private void seenAndForgotten() {
        type(0, "as6;bo9");
        event(0, 3, 1);
        event(0, 4, 0);
        see(5, 0, 1);
        see(6, 1, 3);
        see(0, 5, 0);
        Check.due("forget", x.forget(), 3);
        seen.clear();
        alike("forgotten");
        see(9, 1, 2);
    }

    /** Who is no more told is nowhere, whatever the shows ahead left behind. */
    private void fewerWalkers() {
        type(0, "as0;as0;as0;as0;as0;as0");
        Check.due("the sixth", x.sees(9, 4), 5);
        for (int left = 5; left >= 1; left--) {
            undo(0, 4);
            Check.due("not there any more", x.sees(9, 9 - left), -1);
            Check.due("the last of them", x.sees(9, 10 - left), left - 1);
            Check.due("nowhere", x.at(9, left, 1), -2);
        }
        undo(0, 3);
        Check.due("bare", x.bare(), 24);
    }

    private void byChance(Random random) {
        type(0, Check.walkersByChance(random));
        for (int k = 0; k < 30; k++) {
            switch (random.nextInt(7)) {
                case 0: undo(random.nextInt(2), 1 + random.nextInt(4)); break;
                case 1: if (texts[1].length() < 24) type(1, "" + "fwlr".charAt(random.nextInt(4))); break;
                case 2: wire(0, 5 + random.nextInt(20)); break;
                case 3: wire(1, random.nextInt(10)); break;
                case 4: wire(2, 3 + random.nextInt(18)); break;
                case 5: if (events.size() < 5) event(random.nextInt(3), random.nextInt(14), random.nextInt(6)); break;
                default: if (!events.isEmpty()) back(); break;
            }
        }
    }
}
