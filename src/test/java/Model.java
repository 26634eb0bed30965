import java.math.BigInteger;
import java.util.ArrayList;
import java.util.Comparator;
import java.util.HashMap;
import java.util.List;
import java.util.Map;

/** The document once more, word by word and slowly, to hold the class against. */
final class Model {
    static final int NONE = -1, BAD = -2, NOT = -3, FULL = -4, LEAST = Integer.MIN_VALUE;
    static final long LONG_BAD = Long.MIN_VALUE + 2;

    static final class Walker {
        int number, beat, sort, pole;
        int is = 0, place = NONE, lean = 0, own = 0, end = NONE, blocked = 0, far = 0;
    }

    static final class Run {
        List<Walker> walkers = new ArrayList<>();
        int[][] is = new int[24][], place = new int[24][], lean = new int[24][];
        int[] sway = new int[24];
        int steps = 0;

        int many(int is) {
            int n = 0;
            for (Walker w : walkers) n += w.is == is ? 1 : 0;
            return n;
        }
    }

    StringBuilder[] texts = {new StringBuilder(), new StringBuilder()};
    int length = 20, slack = 2, limit = 8, finding = 0;
    List<int[]> events = new ArrayList<>();
    List<int[]> seen = new ArrayList<>();
    Object[] sheets = new Object[4];

    // ---- the texts

    static boolean may(String prefix, int text) {
        if (text == 1) return prefix.matches("[fwlr]*");
        String one = "[a-x][sbo][0-9]";
        return prefix.matches("(" + one + ";){0,5}([a-x]([sbo]([0-9])?)?)?") || prefix.matches("(" + one + ";){1,5}");
    }

    static boolean whole(String s, int text) {
        return text == 1 || s.isEmpty() || s.matches("[a-x][sbo][0-9](;[a-x][sbo][0-9]){0,5}");
    }

    int faultOf(int text) {
        String s = texts[text].toString();
        for (int k = 0; k < s.length(); k++) if (!may(s.substring(0, k + 1), text)) return k;
        return whole(s, text) ? NONE : s.length();
    }

    String well(int text) {
        return faultOf(text) == NONE ? texts[text].toString() : "";
    }

    List<Walker> walkers() {
        List<Walker> all = new ArrayList<>();
        if (well(0).isEmpty()) return all;
        for (String one : well(0).split(";")) {
            Walker w = new Walker();
            w.number = all.size();
            w.beat = one.charAt(0) - 'a';
            w.sort = "sbo".indexOf(one.charAt(1));
            w.pole = one.charAt(2) - '0';
            all.add(w);
        }
        return all;
    }

    int[] routine() {
        int[] moves = new int[24];
        String s = well(1);
        for (int k = 0; k < s.length(); k++) moves[k] = "fwlr".indexOf(s.charAt(k));
        return moves;
    }

    // ---- a show

    static Walker on(Run r, int place) {
        for (Walker w : r.walkers) if (w.is == 1 && w.place == place) return w;
        return null;
    }

    Run run(List<Walker> walkers, int[] moves, List<int[]> events) {
        Run r = new Run();
        r.walkers = walkers;
        boolean went = false;
        for (int t = 0; t < 24; t++) {
            boolean cheer = false;
            for (int[] e : events) {
                if (e[1] != t) continue;
                if (e[0] == 0) for (Walker w : walkers) if (w.is == 1) w.lean += e[2] % 2 != 0 ? 3 : -3;
                if (e[0] == 1) for (Walker w : walkers) if (w.number == e[2]) w.pole = 0;
                if (e[0] == 2) cheer = true;
            }
            if (went) {
                r.sway[t] = (t % 2 == 0 ? 1 : -1) * (slack / 2);
                for (Walker w : walkers) if (w.is == 1) w.lean += r.sway[t];
            }
            int before = r.steps;
            List<Walker> order = new ArrayList<>();
            for (Walker w : walkers) if (w.is == 1) order.add(w);
            order.sort(Comparator.comparingInt(w -> -w.place));
            for (Walker w : order) turn(r, w, moves[w.own++], cheer, t);
            went = r.steps > before;
            for (Walker w : walkers) {
                if (w.is == 0 && w.beat <= t && on(r, 0) == null) {
                    w.is = 1;
                    w.place = 0;
                }
            }
            r.is[t] = walkers.stream().mapToInt(w -> w.is).toArray();
            r.place[t] = walkers.stream().mapToInt(w -> w.place).toArray();
            r.lean[t] = walkers.stream().mapToInt(w -> w.lean).toArray();
            for (Walker w : walkers) w.far = Math.max(w.far, Math.abs(w.lean));
        }
        return r;
    }

    void turn(Run r, Walker w, int move, boolean cheer, int t) {
        if (move == 0) {
            int gone = 0;
            int most = (w.sort == 1 ? 2 : 1) + (cheer ? 1 : 0);
            while (gone < most && w.place < length && on(r, w.place + 1) == null) {
                w.place++;
                gone++;
                r.steps++;
                if (w.sort == 1) w.lean++;
            }
            if (gone == 0) w.blocked++;
        }
        if (move == 1 && w.lean > 0) w.lean--;
        else if (move == 1 && w.lean < 0) w.lean++;
        if (move == 2) w.lean -= 1 + w.pole / 3 + (w.sort == 2 ? 1 : 0);
        if (move == 3) w.lean += 1 + w.pole / 3 + (w.sort == 2 ? 1 : 0);
        int over = w.sort == 0 ? 2 : 0;
        if (w.lean > over) w.lean++;
        else if (w.lean < -over) w.lean--;
        if (w.place == length) {
            w.is = 2;
            w.lean = 0;
            w.end = t;
        } else if (w.lean >= limit || w.lean <= -limit) {
            w.is = 3;
            w.end = t;
        }
    }

    Run told() {
        return run(walkers(), routine(), events);
    }

    Run with(int walker, int field, int v) {
        List<Walker> all = walkers();
        if (field == 0) all.get(walker).beat = v;
        if (field == 1) all.get(walker).sort = v;
        if (field == 2) all.get(walker).pole = v;
        return run(all, routine(), events);
    }

    Run without(int bits) {
        List<int[]> left = new ArrayList<>();
        for (int e = 0; e < events.size(); e++) if ((bits >> e & 1) == 0) left.add(events.get(e));
        return run(walkers(), routine(), left);
    }

    boolean out(Run r) {
        for (int[] s : seen) {
            if (s[1] >= r.walkers.size() || r.is[s[0]][s[1]] != s[2]) return false;
        }
        return true;
    }

    // ---- the face

    boolean no(int v, int least, int most) {
        return v < least || v > most;
    }

    boolean noWalker(int w) {
        return no(w, 0, walkers().size() - 1);
    }

    int find(int n) {
        finding = n;
        return -10 - n;
    }

    long call(String name, int[] a) {
        switch (name) {
            case "type": {
                if (no(a[0], 0, 1) || no(a[1], 0, 255)) return BAD;
                if (texts[a[0]].length() == (a[0] == 0 ? 23 : 24)) return FULL;
                return texts[a[0]].append((char) a[1]).length();
            }
            case "wipe": {
                if (no(a[0], 0, 1)) return BAD;
                int had = texts[a[0]].length();
                texts[a[0]].setLength(0);
                return had;
            }
            case "undo": {
                if (no(a[0], 0, 1)) return BAD;
                if (texts[a[0]].length() == 0) return NOT;
                texts[a[0]].setLength(texts[a[0]].length() - 1);
                return texts[a[0]].length();
            }
            case "fault": return no(a[0], 0, 1) ? BAD : faultOf(a[0]);
            case "walker": {
                if (noWalker(a[0]) || no(a[1], 0, 2)) return BAD;
                Walker w = walkers().get(a[0]);
                return a[1] == 0 ? w.beat : a[1] == 1 ? w.sort : w.pole;
            }
            case "routine": return no(a[0], 0, 23) ? BAD : routine()[a[0]];
            case "wire": return wire(a[0], a[1]);
            case "event": {
                if (badEvent(a[0], a[1], a[2])) return BAD;
                if (events.size() == 8) return FULL;
                events.add(new int[] {a[0], a[1], a[2]});
                return events.size();
            }
            case "back": {
                if (events.isEmpty()) return NOT;
                events.remove(events.size() - 1);
                return events.size();
            }
            case "read": return read(a[0]);
            case "at": case "lean": case "sees": case "sway": case "ends": case "sum": case "who": case "bare":
                return beats(name, a);
            case "start": case "hold": case "act": case "spare": return plans(name, a);
            case "seen": case "forget": case "never": case "was": case "ask": case "chance": case "shows":
                return chances(name, a);
            case "digest": return digest();
            default: return paper(name, a);
        }
    }

    int wire(int what, int v) {
        int was;
        if (what == 0 && !no(v, 5, 40)) { was = length; length = v; return was; }
        if (what == 1 && !no(v, 0, 9)) { was = slack; slack = v; return was; }
        if (what == 2 && !no(v, 3, 20)) { was = limit; limit = v; return was; }
        return BAD;
    }

    boolean badEvent(int kind, int beat, int number) {
        return no(kind, 0, 2) || no(beat, 0, 23) || no(number, 0, 5);
    }

    int read(int s) {
        if (no(s, 0, 3)) return BAD;
        if (sheets[s] == null) return find(1);
        int n = 0;
        while (3 * n + 3 <= size(s) && events.size() < 8) {
            int[] e = {item(s, 3 * n), item(s, 3 * n + 1), item(s, 3 * n + 2)};
            if (badEvent(e[0], e[1], e[2])) break;
            events.add(e);
            n++;
        }
        return n;
    }

    long beats(String name, int[] a) {
        Run r = told();
        switch (name) {
            case "at":
                if (no(a[0], 0, 23) || noWalker(a[1]) || no(a[2], 0, 1)) return BAD;
                return a[2] == 0 ? r.is[a[0]][a[1]] : r.place[a[0]][a[1]];
            case "lean": return no(a[0], 0, 23) || noWalker(a[1]) ? LEAST : r.lean[a[0]][a[1]];
            case "sees": {
                if (no(a[0], 0, 23) || no(a[1], 0, 40)) return BAD;
                for (Walker w : r.walkers) {
                    if (r.is[a[0]][w.number] == 1 && r.place[a[0]][w.number] == a[1]) return w.number;
                }
                return NONE;
            }
            case "sway": return no(a[0], 0, 23) ? LEAST : r.sway[a[0]];
            case "ends": {
                if (noWalker(a[0]) || no(a[1], 0, 2)) return BAD;
                Walker w = r.walkers.get(a[0]);
                return a[1] == 0 ? w.end : a[1] == 1 ? w.blocked : w.far;
            }
            case "sum": return no(a[0], 0, 2) ? BAD : a[0] == 0 ? r.many(2) : a[0] == 1 ? r.many(3) : r.steps;
            case "who": {
                if (no(a[0], 0, 1)) return BAD;
                Walker best = null;
                for (Walker w : r.walkers) {
                    if (a[0] == 0 && w.is == 2 && (best == null || w.end < best.end)) best = w;
                    if (a[0] == 1 && w.far > 0 && (best == null || w.far > best.far)) best = w;
                }
                return best == null ? NONE : best.number;
            }
            default: {
                int bare = 0;
                for (int t = 0; t < 24; t++) {
                    boolean any = false;
                    for (int is : r.is[t]) any |= is == 1;
                    if (!any) bare++;
                }
                return bare;
            }
        }
    }

    long plans(String name, int[] a) {
        if (name.equals("spare")) return spare(a[0]);
        boolean act = name.equals("act");
        if ((act ? no(a[0], 0, 23) : noWalker(a[0])) || no(a[1], 0, 1)) return BAD;
        int choices = act ? 4 : name.equals("start") ? 24 : 10;
        int best = NONE, most = -1;
        for (int v = 0; v < choices; v++) {
            int[] moves = routine();
            if (act) moves[a[0]] = v;
            Run r = act ? run(walkers(), moves, events) : with(a[0], name.equals("start") ? 0 : 2, v);
            if (r.many(2) > most) {
                most = r.many(2);
                best = v;
            }
        }
        return a[1] == 0 ? best : most;
    }

    int spare(int i) {
        if (no(i, -1, 1)) return BAD;
        for (int many = 0; many <= 2; many++) {
            for (int first = -1; first < events.size(); first++) {
                for (int second = -1; second < events.size(); second++) {
                    if ((first >= 0) != (many >= 1) || (second >= 0) != (many == 2)) continue;
                    if (many == 2 && second <= first) continue;
                    int bits = (first >= 0 ? 1 << first : 0) | (second >= 0 ? 1 << second : 0);
                    if (without(bits).many(3) > 0) continue;
                    return i == -1 ? many : i == 0 ? first : second;
                }
            }
        }
        return NONE;
    }

    long chances(String name, int[] a) {
        switch (name) {
            case "seen":
                if (no(a[0], 0, 23) || no(a[1], 0, 5) || no(a[2], 0, 3)) return BAD;
                if (seen.size() == 8) return FULL;
                seen.add(new int[] {a[0], a[1], a[2]});
                return seen.size();
            case "forget": {
                int had = seen.size();
                seen.clear();
                return had;
            }
            case "never": {
                int bits = 0;
                for (int e = 0; e < events.size(); e++) if (out(without(1 << e))) bits += 1 << e;
                return bits;
            }
            case "was": {
                if (noWalker(a[0]) || no(a[1], 0, 1)) return BAD;
                int bits = 0;
                for (int v = 0; v < (a[1] == 0 ? 10 : 3); v++) if (out(with(a[0], a[1] == 0 ? 2 : 1, v))) bits += 1 << v;
                return bits;
            }
            case "ask": return ask(a[0]);
            case "chance": return chance(a[0], a[1], a[2]);
            default: {
                if (no(a[1], 0, 24) || no(a[2], 0, 1)) return BAD;
                int[] moves = new int[24];
                int seed = a[0];
                for (int k = 0; k < a[1]; k++) {
                    seed = seed * 1103515245 + 12345;
                    moves[k] = (int) ((seed & 0xffffffffL) / 65536 % 4);
                }
                Run r = run(walkers(), moves, events);
                return a[2] == 0 ? r.many(2) : r.steps;
            }
        }
    }

    int ask(int walker) {
        if (noWalker(walker)) return BAD;
        List<Run> fits = new ArrayList<>();
        for (int v = 0; v < 10; v++) {
            Run r = with(walker, 2, v);
            if (out(r)) fits.add(r);
        }
        int best = 0, least = 99;
        for (int t = 0; t < 24; t++) {
            Map<String, Integer> like = new HashMap<>();
            int most = 0;
            for (Run r : fits) most = Math.max(most, like.merge(java.util.Arrays.toString(r.place[t]), 1, Integer::sum));
            if (most < least) {
                least = most;
                best = t;
            }
        }
        return best;
    }

    long chance(int c, int walker, int what) {
        if (no(c, 0, 16) || noWalker(walker) || no(what, 0, 1)) return LONG_BAD;
        BigInteger above = BigInteger.ZERO, below = BigInteger.valueOf(16).pow(events.size());
        for (int bits = 0; bits < 1 << events.size(); bits++) {
            int gone = Integer.bitCount(bits);
            if (without(bits).walkers.get(walker).is != 2) continue;
            above = above.add(BigInteger.valueOf(16 - c).pow(gone).multiply(BigInteger.valueOf(c).pow(events.size() - gone)));
        }
        BigInteger g = above.gcd(below);
        return (what == 0 ? above : below).divide(g).longValueExact();
    }

    // ---- sheets: real rows, so that the findings are the machine's own

    int size(int s) {
        return java.lang.reflect.Array.getLength(sheets[s]);
    }

    int item(int s, int i) {
        return java.lang.reflect.Array.getInt(sheets[s], i);
    }

    int form(int s) {
        return sheets[s] instanceof byte[] ? 0 : sheets[s] instanceof short[] ? 1 : 2;
    }

    void put(int s, int i, int v) {
        if (sheets[s] instanceof byte[]) ((byte[]) sheets[s])[i] = (byte) v;
        else if (sheets[s] instanceof short[]) ((short[]) sheets[s])[i] = (short) v;
        else ((int[]) sheets[s])[i] = v;
    }

    long paper(String name, int[] a) {
        switch (name) {
            case "sheet":
                if (no(a[0], 0, 3) || no(a[1], 0, 2) || a[2] > 60) return BAD;
                if (a[2] < 0) return find(5);
                sheets[a[0]] = a[1] == 0 ? new byte[a[2]] : a[1] == 1 ? new short[a[2]] : (Object) new int[a[2]];
                return a[2];
            case "lose": {
                if (no(a[0], 0, 3)) return BAD;
                if (sheets[a[0]] == null) return find(1);
                int had = size(a[0]);
                sheets[a[0]] = null;
                return had;
            }
            case "lay": case "get": {
                boolean get = name.equals("get");
                if (no(a[0], 0, 3) || no(a[1], 0, 2)) return get ? LEAST : BAD;
                int f = sheets[a[0]] == null ? 1 : form(a[0]) != a[1] ? 3 : no(a[2], 0, size(a[0]) - 1) ? 2 : 0;
                if (f != 0) return get ? LEAST + 0 * find(f) : find(f);
                if (get) return item(a[0], a[2]);
                put(a[0], a[2], a[3]);
                return 1;
            }
            case "copy": {
                if (no(a[0], 0, 3) || no(a[2], 0, 3)) return BAD;
                Object s = sheets[a[0]], t = sheets[a[2]];
                try {
                    System.arraycopy(s, a[1], t, a[3], a[4]);
                } catch (NullPointerException e) {
                    return find(1);
                } catch (ArrayStoreException e) {
                    return find(4);
                } catch (IndexOutOfBoundsException e) {
                    return find(2);
                }
                return 1;
            }
            case "write": {
                if (noWalker(a[0]) || no(a[1], 0, 3)) return BAD;
                if (sheets[a[1]] == null) return find(1);
                Run r = told();
                int n = 0;
                for (; n < 24 && n < size(a[1]); n++) put(a[1], n, r.lean[n][a[0]]);
                return n;
            }
            default: {
                int[] counts = {walkers().size(), well(1).length(), texts[0].length() + texts[1].length(),
                    events.size(), length, slack, limit, seen.size(), finding};
                return no(a[0], 0, 8) ? BAD : counts[a[0]];
            }
        }
    }

    long h;

    void mix(String name, int... a) {
        h = 31 * h + call(name, a);
    }

    long digest() {
        h = 17;
        for (int k = 0; k < 8; k++) mix("count", k);
        mix("fault", 0);
        mix("fault", 1);
        for (int t = 0; t < 24; t++) {
            mix("routine", t);
            mix("sway", t);
        }
        for (int p = 0; p <= 40; p++) mix("sees", 9, p);
        for (int w = 0; w < walkers().size(); w++) {
            for (int k = 0; k < 3; k++) mix("walker", w, k);
            for (int t : new int[] {0, 6, 13, 23}) {
                mix("at", t, w, 0);
                mix("at", t, w, 1);
                mix("lean", t, w);
            }
            for (int k = 0; k < 3; k++) mix("ends", w, k);
            for (String name : new String[] {"start", "hold", "was"}) {
                mix(name, w, 0);
                mix(name, w, 1);
            }
            mix("ask", w);
            mix("chance", 5, w, 0);
            mix("chance", 5, w, 1);
        }
        for (int k = 0; k < 3; k++) mix("sum", k);
        mix("who", 0);
        mix("who", 1);
        mix("bare");
        mix("act", 2, 0);
        mix("act", 2, 1);
        mix("act", 6, 0);
        mix("act", 6, 1);
        mix("spare", NONE);
        mix("spare", 0);
        mix("never");
        mix("shows", 7, 18, 0);
        mix("shows", 7, 18, 1);
        return h;
    }
}
