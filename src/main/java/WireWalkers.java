import java.util.Arrays;

/** Walkers on a wire over the square; ../shared/DOC.md tells what each call promises. */
public final class WireWalkers {
    public static final int NONE = -1, BAD = -2, NOT = -3, FULL = -4;

    private static final int BEATS = 24, MOST_PLACE = 40;
    private static final int MOST_WALKERS = 6, MOST_EVENTS = 8, MOST_SEEN = 8;
    private static final int WALKER_BYTES = 23, ROUTINE_BYTES = 24;
    private static final int SHEETS = 4, FORMS = 3, MOST_ITEMS = 60;
    private static final int POLES = 10, SORTS = 3, MOVES = 4;
    private static final int GUST = 0, DROP = 1, CHEER = 2;
    private static final int BOLD = 1, OLD = 2, STEADY = 0;
    private static final int FORWARD = 0, WAIT = 1, LEFT = 2, RIGHT = 3;
    private static final int OFF = 0, ON = 1, OVER = 2, FELL = 3;
    private static final int FREE = 1000;
    private static final int NULL = 1, INDEX = 2, CAST = 3, STORE = 4, SIZE = 5;
    private static final int LEAST_INT = Integer.MIN_VALUE;
    private static final int[] DIGEST_BEATS = {0, 6, 13, 23};

    private final Text walkerText = new Text(WALKER_BYTES);
    private final Text routineText = new Text(ROUTINE_BYTES);
    private final Told told = new Told();
    private final Sightings sightings = new Sightings();
    private final Show show = new Show();
    private final Show trial = new Show();
    private final int[] trialMoves = new int[BEATS];
    private final int[] overBits = new int[1 << MOST_EVENTS];
    private final long[] placeMarks = new long[POLES * BEATS];
    private final int[] spared = new int[2];
    private final Sheet[] sheets = new Sheet[SHEETS];
    private boolean showFresh = false;
    private boolean oddsFresh = false;
    private int bestChoice = 0;
    private int bestOvers = 0;
    private int latestFinding = 0;

    public WireWalkers() {
        for (int s = 0; s < SHEETS; s++) {
            sheets[s] = new Sheet();
        }
    }

    // ---- walkers, the routine, the wire, events

    public int type(int text, int b) {
        if (!within(text, 0, 1) || !within(b, 0, 255)) {
            return BAD;
        }
        Text typed = textOf(text);
        if (!typed.hasRoom()) {
            return FULL;
        }
        typed.add(b);
        takeTexts();
        return typed.size;
    }

    public int wipe(int text) {
        if (!within(text, 0, 1)) {
            return BAD;
        }
        Text wiped = textOf(text);
        int had = wiped.size;
        wiped.size = 0;
        takeTexts();
        return had;
    }

    public int undo(int text) {
        if (!within(text, 0, 1)) {
            return BAD;
        }
        Text shortened = textOf(text);
        if (shortened.size <= 0) {
            return NOT;
        }
        shortened.size--;
        takeTexts();
        return shortened.size;
    }

    public int fault(int text) {
        if (!within(text, 0, 1)) {
            return BAD;
        }
        return text == 0 ? walkerText.faultOfWalkers() : routineText.faultOfRoutine();
    }

    public int walker(int walker, int what) {
        if (!isWalker(walker) || !within(what, 0, 2)) {
            return BAD;
        }
        if (what == 0) {
            return told.starts[walker];
        }
        return what == 1 ? told.sorts[walker] : told.poles[walker];
    }

    public int routine(int beat) {
        return isBeat(beat) ? told.moves[beat] : BAD;
    }

    public int wire(int what, int v) {
        if (what == 0 && within(v, 5, MOST_PLACE)) {
            int was = told.length;
            told.length = v;
            forgetShows();
            return was;
        }
        if (what == 1 && within(v, 0, 9)) {
            int was = told.slack;
            told.slack = v;
            forgetShows();
            return was;
        }
        if (what == 2 && within(v, 3, 20)) {
            int was = told.limit;
            told.limit = v;
            forgetShows();
            return was;
        }
        return BAD;
    }

    public int event(int kind, int beat, int number) {
        if (!Told.mayBeEvent(kind, beat, number)) {
            return BAD;
        }
        if (!told.hasRoomForEvent()) {
            return FULL;
        }
        told.addEvent(kind, beat, number);
        forgetShows();
        return told.events;
    }

    public int back() {
        if (told.events <= 0) {
            return NOT;
        }
        told.events--;
        forgetShows();
        return told.events;
    }

    public int read(int s) {
        if (!isSheet(s)) {
            return BAD;
        }
        Sheet from = sheets[s];
        if (from.lost) {
            return found(NULL);
        }
        int taken = 0;
        for (int i = 0; i + 2 < from.size && i + 2 < MOST_ITEMS; i += 3) {
            int kind = from.items[i];
            int beat = from.items[i + 1];
            int number = from.items[i + 2];
            if (!Told.mayBeEvent(kind, beat, number) || !told.hasRoomForEvent()) {
                break;
            }
            told.addEvent(kind, beat, number);
            taken++;
        }
        forgetShows();
        return taken;
    }

    // ---- beats

    public int at(int beat, int walker, int what) {
        if (!isBeat(beat) || !isWalker(walker) || !within(what, 0, 1)) {
            return BAD;
        }
        Ledger ledger = shown().ledger;
        return what == 0 ? ledger.stateBehind(beat, walker) : ledger.placeBehind(beat, walker);
    }

    public int lean(int beat, int walker) {
        if (!isBeat(beat) || !isWalker(walker)) {
            return LEAST_INT;
        }
        return shown().ledger.leanBehind(beat, walker);
    }

    public int sees(int beat, int place) {
        if (!isBeat(beat) || !within(place, 0, MOST_PLACE)) {
            return BAD;
        }
        Ledger ledger = shown().ledger;
        for (int w = 0; w < told.walkers; w++) {
            if (ledger.stateBehind(beat, w) == ON && ledger.placeBehind(beat, w) == place) {
                return w;
            }
        }
        return NONE;
    }

    public int sway(int beat) {
        return isBeat(beat) ? shown().ledger.sways[beat] : LEAST_INT;
    }

    public int ends(int walker, int what) {
        if (!isWalker(walker) || !within(what, 0, 2)) {
            return BAD;
        }
        Show played = shown();
        if (what == 0) {
            return played.ended[walker];
        }
        return what == 1 ? played.blocked[walker] : played.farthest[walker];
    }

    public int sum(int what) {
        if (!within(what, 0, 2)) {
            return BAD;
        }
        Show played = shown();
        if (what == 0) {
            return played.overs;
        }
        return what == 1 ? played.falls : played.steps;
    }

    public int who(int what) {
        if (!within(what, 0, 1)) {
            return BAD;
        }
        Show played = shown();
        return what == 0 ? firstOver(played) : farthestLeaning(played);
    }

    public int bare() {
        Ledger ledger = shown().ledger;
        int bare = 0;
        for (int beat = 0; beat < BEATS; beat++) {
            boolean anybody = false;
            for (int w = 0; w < told.walkers; w++) {
                anybody = anybody || ledger.stateBehind(beat, w) == ON;
            }
            bare += anybody ? 0 : 1;
        }
        return bare;
    }

    private int firstOver(Show played) {
        int first = NONE;
        int earliest = BEATS;
        for (int w = 0; w < told.walkers; w++) {
            if (played.state[w] == OVER && played.ended[w] < earliest) {
                earliest = played.ended[w];
                first = w;
            }
        }
        return first;
    }

    private int farthestLeaning(Show played) {
        int worst = NONE;
        int most = 0;
        for (int w = 0; w < told.walkers; w++) {
            if (played.farthest[w] > most) {
                most = played.farthest[w];
                worst = w;
            }
        }
        return worst;
    }

    // ---- plans

    public int start(int walker, int what) {
        if (!isWalker(walker) || !within(what, 0, 1)) {
            return BAD;
        }
        chooseFor(told.starts, walker, BEATS);
        return what == 0 ? bestChoice : bestOvers;
    }

    public int hold(int walker, int what) {
        if (!isWalker(walker) || !within(what, 0, 1)) {
            return BAD;
        }
        chooseFor(told.poles, walker, POLES);
        return what == 0 ? bestChoice : bestOvers;
    }

    public int act(int beat, int what) {
        if (!isBeat(beat) || !within(what, 0, 1)) {
            return BAD;
        }
        chooseFor(told.moves, beat, MOVES);
        return what == 0 ? bestChoice : bestOvers;
    }

    public int spare(int i) {
        if (!within(i, NONE, 1)) {
            return BAD;
        }
        int fewest = spareFewest();
        if (i == NONE) {
            return fewest;
        }
        return i < fewest ? spared[i] : NONE;
    }

    /** Tries each choice at one item of what was told, and puts the item back as it was. */
    private void chooseFor(int[] row, int item, int choices) {
        bestChoice = NONE;
        bestOvers = NONE;
        if (item < 0 || item >= row.length) {
            return;
        }
        int own = row[item];
        for (int choice = 0; choice < choices; choice++) {
            row[item] = choice;
            trial.play(told, told.moves, 0, false);
            if (trial.overs > bestOvers) {
                bestOvers = trial.overs;
                bestChoice = choice;
            }
        }
        row[item] = own;
    }

    private int spareFewest() {
        if (nobodyFallsWithout(0)) {
            return 0;
        }
        for (int a = 0; a < told.events; a++) {
            if (nobodyFallsWithout(1 << a)) {
                spared[0] = a;
                return 1;
            }
        }
        for (int a = 0; a < told.events; a++) {
            for (int b = a + 1; b < told.events; b++) {
                if (nobodyFallsWithout(1 << a | 1 << b)) {
                    spared[0] = a;
                    spared[1] = b;
                    return 2;
                }
            }
        }
        return NONE;
    }

    private boolean nobodyFallsWithout(int events) {
        trial.play(told, told.moves, events, false);
        return trial.falls == 0;
    }

    // ---- seen, chance, shows

    public int seen(int beat, int walker, int is) {
        if (!isBeat(beat) || !within(walker, 0, MOST_WALKERS - 1) || !within(is, OFF, FELL)) {
            return BAD;
        }
        if (!sightings.hasRoom()) {
            return FULL;
        }
        sightings.add(beat, walker, is);
        return sightings.size;
    }

    public int forget() {
        int had = sightings.size;
        sightings.size = 0;
        return had;
    }

    public int never() {
        int bits = 0;
        for (int e = 0; e < told.events; e++) {
            trial.play(told, told.moves, 1 << e, true);
            if (sightings.fit(trial.ledger, told.walkers)) {
                bits |= 1 << e;
            }
        }
        return bits;
    }

    public int was(int walker, int what) {
        if (!isWalker(walker) || !within(what, 0, 1)) {
            return BAD;
        }
        return what == 0 ? fittingPoles(walker) : fittingSorts(walker);
    }

    public int ask(int walker) {
        if (!isWalker(walker)) {
            return BAD;
        }
        int poles = fittingPoles(walker);
        int best = 0;
        int least = POLES + 1;
        for (int beat = 0; beat < BEATS; beat++) {
            int most = mostAlike(poles, beat);
            if (most < least) {
                least = most;
                best = beat;
            }
        }
        return best;
    }

    public long chance(int c, int walker, int what) {
        if (!within(c, 0, 16) || !isWalker(walker) || !within(what, 0, 1)) {
            return Long.MIN_VALUE - BAD;
        }
        weighOdds();
        long above = 0;
        long below = 1L << 4 * told.events;
        for (int set = 0; set < 1 << told.events && set < overBits.length; set++) {
            if ((overBits[set] >> walker & 1) == 1) {
                above += weightOf(set, c);
            }
        }
        // What stands below is a power of two, so halving reaches the lowest terms.
        for (int k = 0; k < 4 * MOST_EVENTS && below > 1 && above % 2 == 0; k++) {
            above /= 2;
            below /= 2;
        }
        return what == 0 ? above : below;
    }

    public int shows(int seed, int n, int what) {
        if (!within(n, 0, BEATS) || !within(what, 0, 1)) {
            return BAD;
        }
        int lot = seed;
        for (int beat = 0; beat < BEATS; beat++) {
            lot = 1103515245 * lot + 12345;
            trialMoves[beat] = beat < n ? (lot >>> 16) % MOVES : FORWARD;
        }
        trial.play(told, trialMoves, 0, false);
        return what == 0 ? trial.overs : trial.steps;
    }

    /** The poles that let all that was seen come out so; marks of their shows are kept for ask. */
    private int fittingPoles(int walker) {
        if (!isWalker(walker)) {
            return 0;
        }
        int own = told.poles[walker];
        int bits = 0;
        for (int pole = 0; pole < POLES; pole++) {
            told.poles[walker] = pole;
            trial.play(told, told.moves, 0, true);
            if (sightings.fit(trial.ledger, told.walkers)) {
                bits |= 1 << pole;
                markPlaces(pole);
            }
        }
        told.poles[walker] = own;
        return bits;
    }

    private int fittingSorts(int walker) {
        if (!isWalker(walker)) {
            return 0;
        }
        int own = told.sorts[walker];
        int bits = 0;
        for (int sort = 0; sort < SORTS; sort++) {
            told.sorts[walker] = sort;
            trial.play(told, told.moves, 0, true);
            if (sightings.fit(trial.ledger, told.walkers)) {
                bits |= 1 << sort;
            }
        }
        told.sorts[walker] = own;
        return bits;
    }

    private void markPlaces(int pole) {
        for (int beat = 0; beat < BEATS; beat++) {
            int at = pole * BEATS + beat;
            if (at >= 0 && at < placeMarks.length) {
                placeMarks[at] = trial.ledger.markOfPlaces(beat, told.walkers);
            }
        }
    }

    private int mostAlike(int poles, int beat) {
        int most = 0;
        for (int pole = 0; pole < POLES; pole++) {
            int alike = 0;
            for (int other = 0; other < POLES; other++) {
                boolean both = (poles >> pole & 1) == 1 && (poles >> other & 1) == 1;
                if (both && markBehind(pole, beat) == markBehind(other, beat)) {
                    alike++;
                }
            }
            most = Math.max(most, alike);
        }
        return most;
    }

    private long markBehind(int pole, int beat) {
        int at = pole * BEATS + beat;
        return at >= 0 && at < placeMarks.length ? placeMarks[at] : 0;
    }

    /** Who is over by each set of events; kept, since every chance asks for all the sets. */
    private void weighOdds() {
        if (oddsFresh) {
            return;
        }
        for (int set = 0; set < 1 << told.events && set < overBits.length; set++) {
            trial.play(told, told.moves, ~set, false);
            overBits[set] = trial.bitsOfOver(told.walkers);
        }
        oddsFresh = true;
    }

    private long weightOf(int set, int c) {
        long weight = 1;
        for (int e = 0; e < told.events; e++) {
            weight *= (set >> e & 1) == 1 ? c : 16 - c;
        }
        return weight;
    }

    // ---- sheets

    public int sheet(int s, int form, int n) {
        if (!isSheet(s) || !isForm(form) || n > MOST_ITEMS) {
            return BAD;
        }
        if (n < 0) {
            return found(SIZE);
        }
        sheets[s].makeNew(form, n);
        return n;
    }

    public int lose(int s) {
        if (!isSheet(s)) {
            return BAD;
        }
        Sheet gone = sheets[s];
        if (gone.lost) {
            return found(NULL);
        }
        gone.lost = true;
        return gone.size;
    }

    public int lay(int s, int form, int i, int v) {
        if (!isSheet(s) || !isForm(form)) {
            return BAD;
        }
        int finding = findingAt(sheets[s], form, i);
        if (finding != 0) {
            return found(finding);
        }
        sheets[s].put(i, v);
        return 1;
    }

    public int get(int s, int form, int i) {
        if (!isSheet(s) || !isForm(form)) {
            return LEAST_INT;
        }
        int finding = findingAt(sheets[s], form, i);
        if (finding != 0) {
            found(finding);
            return LEAST_INT;
        }
        return sheets[s].items[i];
    }

    public int copy(int s, int i, int t, int j, int n) {
        if (!isSheet(s) || !isSheet(t)) {
            return BAD;
        }
        Sheet from = sheets[s];
        Sheet to = sheets[t];
        if (from.lost || to.lost) {
            return found(NULL);
        }
        if (from.form != to.form) {
            return found(STORE);
        }
        if (!from.hasRun(i, n) || !to.hasRun(j, n)) {
            return found(INDEX);
        }
        System.arraycopy(from.items, i, to.items, j, n);
        return 1;
    }

    public int write(int walker, int s) {
        if (!isWalker(walker) || !isSheet(s)) {
            return BAD;
        }
        Sheet to = sheets[s];
        if (to.lost) {
            return found(NULL);
        }
        Ledger ledger = shown().ledger;
        int most = Math.min(to.size, BEATS);
        for (int beat = 0; beat < most; beat++) {
            to.put(beat, ledger.leanBehind(beat, walker));
        }
        return most;
    }

    public int count(int what) {
        switch (what) {
            case 0: return told.walkers;
            case 1: return routineText.faultOfRoutine() == NONE ? routineText.size : 0;
            case 2: return walkerText.size + routineText.size;
            case 3: return told.events;
            case 4: return told.length;
            case 5: return told.slack;
            case 6: return told.limit;
            case 7: return sightings.size;
            case 8: return latestFinding;
            default: return BAD;
        }
    }

    public long digest() {
        long h = 17;
        for (int what = 0; what <= 7; what++) {
            h = mixed(h, count(what));
        }
        h = mixed(mixed(h, fault(0)), fault(1));
        for (int beat = 0; beat < BEATS; beat++) {
            h = mixed(mixed(h, routine(beat)), sway(beat));
        }
        for (int place = 0; place <= MOST_PLACE; place++) {
            h = mixed(h, sees(9, place));
        }
        for (int w = 0; w < told.walkers; w++) {
            h = mixedPlans(mixedWalk(h, w), w);
        }
        for (int what = 0; what <= 2; what++) {
            h = mixed(h, sum(what));
        }
        h = mixed(mixed(mixed(h, who(0)), who(1)), bare());
        h = mixedBest(h, act(2, 0));
        h = mixedBest(h, act(6, 0));
        h = mixed(mixed(h, spare(NONE)), spare(0));
        h = mixed(h, never());
        return mixed(mixed(h, shows(7, 18, 0)), shows(7, 18, 1));
    }

    private long mixedWalk(long before, int w) {
        long h = before;
        for (int what = 0; what <= 2; what++) {
            h = mixed(h, walker(w, what));
        }
        for (int beat : DIGEST_BEATS) {
            h = mixed(mixed(mixed(h, at(beat, w, 0)), at(beat, w, 1)), lean(beat, w));
        }
        for (int what = 0; what <= 2; what++) {
            h = mixed(h, ends(w, what));
        }
        return h;
    }

    private long mixedPlans(long before, int w) {
        long h = mixedBest(before, start(w, 0));
        h = mixedBest(h, hold(w, 0));
        h = mixed(mixed(h, was(w, 0)), was(w, 1));
        h = mixed(h, ask(w));
        return mixed(mixed(h, chance(5, w, 0)), chance(5, w, 1));
    }

    /** Which and how many of one plan: the plan just made has left how many behind. */
    private long mixedBest(long h, int which) {
        return mixed(mixed(h, which), bestOvers);
    }

    private static long mixed(long h, long v) {
        return 31 * h + v;
    }

    // ---- what the calls share

    private static boolean within(int v, int least, int most) {
        return v >= least && v <= most;
    }

    private static boolean isBeat(int beat) {
        return within(beat, 0, BEATS - 1);
    }

    private static boolean isSheet(int s) {
        return within(s, 0, SHEETS - 1);
    }

    private static boolean isForm(int form) {
        return within(form, 0, FORMS - 1);
    }

    private boolean isWalker(int walker) {
        return within(walker, 0, told.walkers - 1) && walker < MOST_WALKERS;
    }

    private Text textOf(int text) {
        return text == 0 ? walkerText : routineText;
    }

    private void takeTexts() {
        told.takeWalkers(walkerText);
        told.takeRoutine(routineText);
        forgetShows();
    }

    private void forgetShows() {
        showFresh = false;
        oddsFresh = false;
    }

    private Show shown() {
        if (!showFresh) {
            show.play(told, told.moves, 0, true);
            showFresh = true;
        }
        return show;
    }

    private int found(int finding) {
        latestFinding = finding;
        return -10 - finding;
    }

    private static int findingAt(Sheet sheet, int form, int i) {
        if (sheet.lost) {
            return NULL;
        }
        if (sheet.form != form) {
            return CAST;
        }
        return within(i, 0, sheet.size - 1) ? 0 : INDEX;
    }

    /** A text as it is typed, well or not. */
    private static final class Text {
        private final int[] bytes;
        private int size = 0;

        Text(int most) {
            bytes = new int[Math.max(most, 0)];
        }

        boolean hasRoom() {
            return size < bytes.length;
        }

        void add(int b) {
            if (size >= 0 && size < bytes.length) {
                bytes[size] = b;
                size++;
            }
        }

        int byteAt(int k) {
            return k >= 0 && k < size && k < bytes.length ? bytes[k] : NONE;
        }

        /** Its bytes hold six walkers at most, so a seventh can never begin. */
        int faultOfWalkers() {
            for (int k = 0; k < size; k++) {
                if (!fitsWalkers(k % 4, byteAt(k))) {
                    return k;
                }
            }
            return size == 0 || size % 4 == 3 ? NONE : size;
        }

        int faultOfRoutine() {
            for (int k = 0; k < size; k++) {
                if (moveOf(byteAt(k)) == NONE) {
                    return k;
                }
            }
            return NONE;
        }

        private static boolean fitsWalkers(int part, int b) {
            switch (part) {
                case 0: return within(b, 'a', 'x');
                case 1: return sortOf(b) != NONE;
                case 2: return within(b, '0', '9');
                default: return b == ';';
            }
        }

        static int sortOf(int b) {
            switch (b) {
                case 's': return STEADY;
                case 'b': return BOLD;
                case 'o': return OLD;
                default: return NONE;
            }
        }

        static int moveOf(int b) {
            switch (b) {
                case 'f': return FORWARD;
                case 'w': return WAIT;
                case 'l': return LEFT;
                case 'r': return RIGHT;
                default: return NONE;
            }
        }
    }

    /** What was told, in numbers: all that a show goes by. */
    private static final class Told {
        private final int[] starts = new int[MOST_WALKERS];
        private final int[] sorts = new int[MOST_WALKERS];
        private final int[] poles = new int[MOST_WALKERS];
        private final int[] moves = new int[BEATS];
        private final int[] kinds = new int[MOST_EVENTS];
        private final int[] beats = new int[MOST_EVENTS];
        private final int[] numbers = new int[MOST_EVENTS];
        private int walkers = 0;
        private int events = 0;
        private int length = 20;
        private int slack = 2;
        private int limit = 8;

        void takeWalkers(Text text) {
            boolean well = text.faultOfWalkers() == NONE;
            walkers = well ? Math.min((text.size + 1) / 4, MOST_WALKERS) : 0;
            for (int w = 0; w < walkers; w++) {
                starts[w] = text.byteAt(4 * w) - 'a';
                sorts[w] = Text.sortOf(text.byteAt(4 * w + 1));
                poles[w] = text.byteAt(4 * w + 2) - '0';
            }
        }

        void takeRoutine(Text text) {
            boolean well = text.faultOfRoutine() == NONE;
            for (int beat = 0; beat < BEATS; beat++) {
                moves[beat] = well && beat < text.size ? Text.moveOf(text.byteAt(beat)) : FORWARD;
            }
        }

        static boolean mayBeEvent(int kind, int beat, int number) {
            return within(kind, GUST, CHEER) && isBeat(beat) && within(number, 0, 5);
        }

        boolean hasRoomForEvent() {
            return events < MOST_EVENTS;
        }

        void addEvent(int kind, int beat, int number) {
            if (events >= 0 && events < MOST_EVENTS) {
                kinds[events] = kind;
                beats[events] = beat;
                numbers[events] = number;
                events++;
            }
        }
    }

    /** What the events come to in each beat: within a beat their order makes no difference. */
    private static final class Weather {
        private final int[] gusts = new int[BEATS];
        private final int[] cheers = new int[BEATS];
        private final int[] drops = new int[BEATS];

        /** Gathers all events but those whose bits are set in without. */
        void gather(Told told, int without) {
            Arrays.fill(gusts, 0);
            Arrays.fill(cheers, 0);
            Arrays.fill(drops, 0);
            for (int e = 0; e < told.events && e < MOST_EVENTS; e++) {
                if ((without >> e & 1) == 0) {
                    add(told.kinds[e], told.beats[e], told.numbers[e]);
                }
            }
        }

        private void add(int kind, int beat, int number) {
            if (beat < 0 || beat >= BEATS) {
                return;
            }
            if (kind == GUST) {
                gusts[beat] += number % 2 == 1 ? 3 : -3;
            } else if (kind == DROP) {
                drops[beat] |= 1 << number;
            } else {
                cheers[beat] = 1;
            }
        }
    }

    /** What each was behind each beat of a show, and how the wire swayed in it. */
    private static final class Ledger {
        private static final int ROWS = BEATS * MOST_WALKERS;

        private final int[] states = new int[ROWS];
        private final int[] places = new int[ROWS];
        private final int[] leans = new int[ROWS];
        private final int[] sways = new int[BEATS];

        void note(int at, int state, int place, int lean) {
            if (at >= 0 && at < ROWS) {
                states[at] = state;
                places[at] = place;
                leans[at] = lean;
            }
        }

        void noteSway(int beat, int sway) {
            if (beat >= 0 && beat < BEATS) {
                sways[beat] = sway;
            }
        }

        int stateBehind(int beat, int walker) {
            int at = rowOf(beat, walker);
            return at == NONE ? OFF : states[at];
        }

        int placeBehind(int beat, int walker) {
            int at = rowOf(beat, walker);
            return at == NONE ? NONE : places[at];
        }

        int leanBehind(int beat, int walker) {
            int at = rowOf(beat, walker);
            return at == NONE ? 0 : leans[at];
        }

        /** One number for the places of all: places are NONE to 40, so six bits hold each. */
        long markOfPlaces(int beat, int walkers) {
            long mark = 0;
            for (int w = 0; w < walkers; w++) {
                int at = rowOf(beat, w);
                mark = mark << 6 | (at == NONE ? 0 : places[at] + 1);
            }
            return mark;
        }

        private static int rowOf(int beat, int walker) {
            boolean there = beat >= 0 && beat < BEATS && walker >= 0 && walker < MOST_WALKERS;
            return there ? beat * MOST_WALKERS + walker : NONE;
        }
    }

    /** What was seen. */
    private static final class Sightings {
        private final int[] beats = new int[MOST_SEEN];
        private final int[] walkers = new int[MOST_SEEN];
        private final int[] states = new int[MOST_SEEN];
        private int size = 0;

        boolean hasRoom() {
            return size < MOST_SEEN;
        }

        void add(int beat, int walker, int state) {
            if (size >= 0 && size < MOST_SEEN) {
                beats[size] = beat;
                walkers[size] = walker;
                states[size] = state;
                size++;
            }
        }

        boolean fit(Ledger ledger, int there) {
            for (int k = 0; k < size && k < MOST_SEEN; k++) {
                if (walkers[k] >= there || ledger.stateBehind(beats[k], walkers[k]) != states[k]) {
                    return false;
                }
            }
            return true;
        }
    }

    /** One show, from the first beat on. */
    private static final class Show {
        private final Weather weather = new Weather();
        private final Ledger ledger = new Ledger();
        private final int[] state = new int[MOST_WALKERS];
        private final int[] place = new int[MOST_WALKERS];
        private final int[] leaning = new int[MOST_WALKERS];
        private final int[] pole = new int[MOST_WALKERS];
        private final int[] began = new int[MOST_WALKERS];
        private final int[] ended = new int[MOST_WALKERS];
        private final int[] blocked = new int[MOST_WALKERS];
        private final int[] farthest = new int[MOST_WALKERS];
        // Nobody passes anybody, so who started first is always the farthest.
        private final int[] line = new int[MOST_WALKERS];
        private int inLine = 0;
        private int steps = 0;
        private int overs = 0;
        private int falls = 0;

        /** Plays without the events whose bits are set; the ledger is kept only if asked for. */
        void play(Told told, int[] moves, int without, boolean keep) {
            int all = Math.min(told.walkers, MOST_WALKERS);
            prepare(told, all);
            weather.gather(told, without);
            boolean moved = false;
            for (int beat = 0; beat < BEATS; beat++) {
                int half = beat % 2 == 0 ? told.slack / 2 : -(told.slack / 2);
                int sway = moved ? half : 0;
                int before = steps;
                playBeat(told, moves, beat, sway);
                moved = steps > before;
                if (keep) {
                    noteBeat(beat, sway, all);
                } else if (overs + falls >= all) {
                    break;
                }
            }
        }

        int bitsOfOver(int walkers) {
            int bits = 0;
            for (int w = 0; w < walkers && w < MOST_WALKERS; w++) {
                bits |= state[w] == OVER ? 1 << w : 0;
            }
            return bits;
        }

        private void prepare(Told told, int all) {
            inLine = 0;
            steps = 0;
            overs = 0;
            falls = 0;
            for (int w = 0; w < all; w++) {
                state[w] = OFF;
                place[w] = NONE;
                leaning[w] = 0;
                pole[w] = told.poles[w];
                began[w] = NONE;
                ended[w] = NONE;
                blocked[w] = 0;
                farthest[w] = 0;
            }
        }

        private void playBeat(Told told, int[] moves, int beat, int sway) {
            if (beat < 0 || beat >= BEATS) {
                return;
            }
            dropPoles(weather.drops[beat]);
            int push = weather.gusts[beat] + sway;
            int ahead = FREE;
            for (int k = 0; k < inLine && k < MOST_WALKERS; k++) {
                int w = line[k];
                if (w >= 0 && w < MOST_WALKERS && state[w] == ON) {
                    leaning[w] += push;
                    int own = beat - began[w] - 1;
                    int move = own >= 0 && own < moves.length ? moves[own] : FORWARD;
                    perform(told, w, move, weather.cheers[beat], ahead);
                    settle(told, w, beat);
                    ahead = state[w] == ON ? place[w] : ahead;
                }
            }
            if (ahead > 0) {
                startNext(told, beat);
            }
        }

        private void dropPoles(int drops) {
            for (int w = 0; w < MOST_WALKERS; w++) {
                if ((drops >> w & 1) == 1) {
                    pole[w] = 0;
                }
            }
        }

        private void perform(Told told, int w, int move, int cheer, int ahead) {
            if (w < 0 || w >= MOST_WALKERS) {
                return;
            }
            int sort = told.sorts[w];
            if (move == FORWARD) {
                int most = place[w] + 1 + (sort == BOLD ? 1 : 0) + cheer;
                int gone = Math.min(most, Math.min(told.length, ahead - 1)) - place[w];
                place[w] += gone;
                steps += gone;
                blocked[w] += gone == 0 ? 1 : 0;
                leaning[w] += sort == BOLD ? gone : 0;
            } else if (move == WAIT) {
                leaning[w] += leaning[w] > 0 ? -1 : leaning[w] < 0 ? 1 : 0;
            } else {
                int by = 1 + pole[w] / 3 + (sort == OLD ? 1 : 0);
                leaning[w] += move == RIGHT ? by : -by;
            }
            int borne = sort == STEADY ? 2 : 0;
            leaning[w] += leaning[w] > borne ? 1 : leaning[w] < -borne ? -1 : 0;
        }

        private void settle(Told told, int w, int beat) {
            if (w < 0 || w >= MOST_WALKERS) {
                return;
            }
            if (place[w] >= told.length) {
                state[w] = OVER;
                leaning[w] = 0;
                ended[w] = beat;
                overs++;
            } else if (Math.abs(leaning[w]) >= told.limit) {
                state[w] = FELL;
                ended[w] = beat;
                falls++;
            }
            farthest[w] = Math.max(farthest[w], Math.abs(leaning[w]));
        }

        /** Lets the least number whose beat has come onto place 0; it is taken for others then. */
        private void startNext(Told told, int beat) {
            for (int w = 0; w < told.walkers && w < MOST_WALKERS; w++) {
                if (state[w] == OFF && told.starts[w] <= beat) {
                    state[w] = ON;
                    place[w] = 0;
                    began[w] = beat;
                    if (inLine >= 0 && inLine < MOST_WALKERS) {
                        line[inLine] = w;
                        inLine++;
                    }
                    return;
                }
            }
        }

        private void noteBeat(int beat, int sway, int all) {
            ledger.noteSway(beat, sway);
            for (int w = 0; w < all && w < MOST_WALKERS; w++) {
                ledger.note(beat * MOST_WALKERS + w, state[w], place[w], leaning[w]);
            }
        }
    }

    /** A sheet's items, kept as ints that its form can hold. */
    private static final class Sheet {
        private final int[] items = new int[MOST_ITEMS];
        private boolean lost = true;
        private int form = 0;
        private int size = 0;

        void makeNew(int newForm, int n) {
            Arrays.fill(items, 0);
            lost = false;
            form = newForm;
            size = Math.max(0, Math.min(n, MOST_ITEMS));
        }

        void put(int i, int v) {
            if (i >= 0 && i < size && i < MOST_ITEMS) {
                items[i] = fitted(v);
            }
        }

        boolean hasRun(int from, int n) {
            return from >= 0 && n >= 0 && n <= size && from <= size - n;
        }

        private int fitted(int v) {
            if (form == 0) {
                return (byte) v;
            }
            return form == 1 ? (short) v : v;
        }
    }
}
