import java.util.Arrays;

/** Posted by the tide: a sea told as a text, and the bottles that drift on it. */
public final class BottlePost {
    /** There is none; to whom it may. */
    public static final int NONE = -1;

    private static final int NO_SUCH = -2;
    private static final int CANNOT_BE = -3;
    private static final int TOO_MANY = -4;
    private static final int NOT_NOW = -5;
    private static final int TRAY_MISSING = -6;
    private static final int NO_NUMBER = -7;
    private static final int NO_BOTTLE = -8;
    private static final int NO_THROWER = -9;
    private static final int WHY_NOT = -10;
    private static final int FAULTY = -30;

    private static final int MOST_TEXT = 900;
    private static final int FED = 20;
    private static final int MOST_SIDE = 6;
    private static final int MOST_CELLS = 36;
    private static final int MOST_PHASES = 6;
    private static final int MOST_MOON = 30;
    private static final int MOST_SHORES = 6;
    private static final int MOST_BOTTLES = 8;
    private static final int MOST_UNDONE = 10;
    private static final int MOST_TIDES = 99;
    private static final int MOST_AHEAD = 999;
    private static final int MOST_WAIT = 30;
    private static final int MOST_NET = 60;
    private static final int MOST_TIMES = 40;
    private static final int MOST_NUMBERS = 40;
    private static final int MOST_TWOS = 4;
    private static final int TRAYS = 4;
    private static final int SORTS = 4;
    private static final int IMAGES = 2;
    private static final int HORIZON = 200;

    private static final int OPEN = 0;
    private static final int ROCK = 1;
    private static final int SHORE = 10;

    private static final int AT_SEA = 0;
    private static final int LIES = 1;
    private static final int KEPT = 2;
    private static final int BROKEN = 3;
    private static final int SUNK = 4;
    private static final int LIFTED = 5;

    private static final int NORTH = 1;
    private static final int EAST = 2;
    private static final int SOUTH = 3;
    private static final int WEST = 4;
    private static final int WAYS = 5;

    private static final int NOT_THERE = 1;
    private static final int NOT_OPEN = 2;
    private static final int THE_NINTH = 3;

    private static final int TO_ANYONE = 9;
    private static final int LIFTS = 1000;

    // The laws are kept as postfix code: below VARIABLE an N, below OPERATOR a word, else a sign.
    private static final int VARIABLE = 1000;
    private static final int OPERATOR = 2000;
    private static final int OR = OPERATOR + 1;
    private static final int AND = OPERATOR + 2;
    private static final int NOT = OPERATOR + 3;
    private static final int LAW_BOUND = 1000000;
    private static final int LAW_WORDS = 7;
    private static final int LAW_STACK = 64;

    private final byte[] tape = new byte[MOST_TEXT];
    private int taped;
    private final Reader reader = new Reader();
    private final Drift drift = new Drift();
    private final Chart chart = drift.chart;
    private final Waters waters = new Waters();
    private final Waters trial = new Waters();
    private final Past past = new Past();
    private final Bottle probe = new Bottle();
    private final Relay route = new Relay();
    private final Witness witness = new Witness();
    private final long[] trails = new long[MOST_BOTTLES];
    private final Tray[] trays = new Tray[TRAYS];
    private final Chart[] imageCharts = new Chart[IMAGES];
    private final Waters[] imageWaters = new Waters[IMAGES];
    private final boolean[] imaged = new boolean[IMAGES];

    public BottlePost() {
        for (int i = 0; i < TRAYS; i++) {
            trays[i] = new Tray();
        }
        for (int i = 0; i < IMAGES; i++) {
            imageCharts[i] = new Chart();
            imageWaters[i] = new Waters();
        }
    }

    // ---- the sea

    public int feed(int a, int b, int c, int d, int e) {
        if (taped + FED > MOST_TEXT) {
            return NOT_NOW;
        }
        tapeFour(a);
        tapeFour(b);
        tapeFour(c);
        tapeFour(d);
        tapeFour(e);
        return taped;
    }

    private void tapeFour(int four) {
        for (int shift = 24; shift >= 0; shift -= 8) {
            if (taped >= 0 && taped < tape.length) {
                tape[taped] = (byte) (four >> shift);
                taped++;
            }
        }
    }

    public int sea(int n) {
        if (n < 0 || n > taped) {
            return CANNOT_BE;
        }
        taped = 0;
        if (!reader.reads(tape, n)) {
            return FAULTY - reader.kind;
        }
        chart.takeFrom(reader.chart);
        waters.clear();
        becomeOther();
        return chart.lines;
    }

    /** What was known of the sea before, and could be undone, is of no use any more. */
    private void becomeOther() {
        drift.forget();
        past.clear();
    }

    public int fault(int what) {
        if (what == 0) {
            return reader.kind;
        }
        return what == 1 ? reader.place : NONE;
    }

    public int cell(int k) {
        return chart.isCell(k) ? chart.kinds[k] : NO_SUCH;
    }

    public int shore(int s, int what) {
        if (!chart.isShore(s)) {
            return NO_SUCH;
        }
        switch (what) {
            case 0:
                return chart.shoreCells[s];
            case 1:
                return chart.shoreWays[s];
            case 2:
                return chart.walks[s];
            case 3:
                return chart.throwCell(s);
            case 4:
                return waters.lyingOn(chart.shoreCells[s]);
            case 5:
                return waters.keptBy(s);
            default:
                return NO_SUCH;
        }
    }

    public int current(int k, int phase) {
        if (!chart.isCell(k) || phase < 0 || phase >= chart.phases) {
            return NO_SUCH;
        }
        return chart.currentAt(k, phase);
    }

    public int wind(int k, int n) {
        if (!chart.isCell(k)) {
            return NO_SUCH;
        }
        if (n < 0 || n > MOST_AHEAD) {
            return CANNOT_BE;
        }
        return drift.windAt(k, waters.tide + n);
    }

    public int bottle(int b, int what) {
        if (!waters.has(b)) {
            return NO_BOTTLE;
        }
        Bottle one = waters.bottles[b];
        switch (what) {
            case 0:
                return one.state;
            case 1:
                return one.cell;
            case 2:
                return one.from;
            case 3:
                return one.to;
            case 4:
                return one.heavy ? 1 : 0;
            case 5:
                return one.age;
            case 6:
                return one.passed;
            case 7:
                return one.keeper;
            default:
                return NO_BOTTLE;
        }
    }

    // ---- deeds

    public int throwsIt(int from, int to, boolean heavy) {
        int why = waters.whyNotThrown(chart, from, to);
        if (why != 0) {
            return WHY_NOT - why;
        }
        past.draft(waters);
        past.commit();
        return waters.launch(chart, from, to, heavy);
    }

    public int tides(int n) {
        if (n < 1 || n > MOST_TIDES) {
            return CANNOT_BE;
        }
        past.draft(waters);
        past.commit();
        int before = waters.countOf(KEPT);
        for (int i = 0; i < n; i++) {
            waters.ebb(drift);
        }
        return waters.countOf(KEPT) - before;
    }

    public int storm(int a, int b) {
        if (!chart.isCell(a) || !chart.isCell(b) || a == b) {
            return NO_SUCH;
        }
        if (!chart.isOpen(a) || !chart.isOpen(b)) {
            return NOT_NOW;
        }
        past.draft(waters);
        int changed = waters.swap(a, b);
        if (changed > 0) {
            past.commit();
        }
        return changed;
    }

    public int lift(int b) {
        int why = waters.whyNotLifted(b);
        if (why != 0 || !waters.has(b)) {
            return WHY_NOT - why;
        }
        past.draft(waters);
        past.commit();
        waters.raise(b);
        return waters.bottles[b].cell;
    }

    public int undo(int n) {
        if (n < 1 || n > MOST_UNDONE || n > past.calls) {
            return CANNOT_BE;
        }
        past.bringBack(n, waters);
        return past.calls;
    }

    public int judge(int tray, int what) {
        if (!isTray(tray) || what < 0 || what > 3) {
            return NO_SUCH;
        }
        if (trays[tray].missing()) {
            return TRAY_MISSING;
        }
        trial.takeFrom(waters);
        int done = doAll(trial, trays[tray]);
        boolean all = done >= trays[tray].size;
        switch (what) {
            case 0:
                return all ? NONE : done;
            case 1:
                return all ? 0 : whyNotDone(trial, trays[tray].numberAt(done));
            case 2:
                return trial.thrown;
            default:
                return trial.countOf(KEPT);
        }
    }

    public int perform(int tray) {
        if (!isTray(tray)) {
            return NO_SUCH;
        }
        if (trays[tray].missing()) {
            return TRAY_MISSING;
        }
        past.draft(waters);
        int done = doAll(waters, trays[tray]);
        if (done > 0) {
            past.commit();
        }
        return done;
    }

    /** The deeds of a tray, till one can't be: how many were done. */
    private int doAll(Waters on, Tray tray) {
        for (int i = 0; i < tray.size; i++) {
            long deed = tray.numberAt(i);
            if (whyNotDone(on, deed) != 0) {
                return i;
            }
            doOne(on, (int) deed);
        }
        return tray.size;
    }

    private int whyNotDone(Waters on, long deed) {
        if (deed == NONE) {
            return 0;
        }
        if (deed < 0 || deed >= LIFTS + MOST_BOTTLES) {
            return NOT_THERE;
        }
        int told = (int) deed;
        if (told >= LIFTS) {
            return on.whyNotLifted(told - LIFTS);
        }
        if (told % 10 > 1) {
            return NOT_THERE;
        }
        return on.whyNotThrown(chart, told / 100, toldTo(told));
    }

    private static int toldTo(int deed) {
        int to = deed / 10 % 10;
        return to == TO_ANYONE ? NONE : to;
    }

    private void doOne(Waters on, int deed) {
        if (deed == NONE) {
            on.ebb(drift);
        } else if (deed >= LIFTS) {
            on.raise(deed - LIFTS);
        } else {
            on.launch(chart, deed / 100, toldTo(deed), deed % 10 == 1);
        }
    }

    public int season(int seed, int times) {
        if (times < 1 || times > MOST_TIMES) {
            return CANNOT_BE;
        }
        if (chart.shores <= 0) {
            return NOT_NOW;
        }
        past.draft(waters);
        int could = 0;
        int x = seed;
        for (int i = 0; i < times; i++) {
            x = stir(x);
            int deed = NONE;
            int lot = drawn(x) % 4;
            if (lot == 2) {
                int first = stir(x);
                int second = stir(first);
                x = stir(second);
                deed = throwDeed(drawn(first) % chart.shores, drawn(second) % chart.shores, drawn(x) % 2);
            } else if (lot == 3) {
                x = stir(x);
                deed = LIFTS + drawn(x) % MOST_BOTTLES;
            }
            if (whyNotDone(waters, deed) == 0) {
                doOne(waters, deed);
                could++;
            }
        }
        if (could > 0) {
            past.commit();
        }
        return could;
    }

    private static int stir(int x) {
        return 1103515245 * x + 12345;
    }

    private static int drawn(int x) {
        return x >>> 16;
    }

    private static int throwDeed(int from, int to, int heavy) {
        return 100 * from + 10 * (from == to ? TO_ANYONE : to) + heavy;
    }

    // ---- to come

    public int fate(int b, int what) {
        if (!waters.has(b) || what < 0 || what > 2) {
            return NO_BOTTLE;
        }
        probe.takeFrom(waters.bottles[b]);
        int within = drift.settle(probe, waters.tide);
        if (what == 0) {
            return probe.state;
        }
        return what == 1 ? within : probe.keeper;
    }

    public int whereIn(int b, int n) {
        if (!waters.has(b)) {
            return NO_SUCH;
        }
        if (n < 0 || n > HORIZON) {
            return CANNOT_BE;
        }
        probe.takeFrom(waters.bottles[b]);
        for (int i = 0; i < n; i++) {
            drift.carry(probe, waters.tide + i);
        }
        return probe.place();
    }

    public int comesTo(int b, int k) {
        if (!waters.has(b) || !chart.isCell(k)) {
            return NO_SUCH;
        }
        probe.takeFrom(waters.bottles[b]);
        for (int i = 0; i <= HORIZON; i++) {
            if (probe.place() == k) {
                return i;
            }
            drift.carry(probe, waters.tide + i);
        }
        return NONE;
    }

    public int keeper(int from, int to, boolean heavy, int w) {
        int code = to == NONE ? throwerCode(from) : pairCode(from, to);
        if (code == NO_SUCH) {
            return NO_SUCH;
        }
        if (w < 0 || w > MOST_WAIT) {
            return CANNOT_BE;
        }
        if (code != 0) {
            return code;
        }
        return Drift.keeperOf(drift.outcome(from, to, heavy, waters.tide + w));
    }

    public int reaches(int from, int to, boolean heavy, int w) {
        int code = pairCode(from, to);
        if (code == NO_SUCH) {
            return NO_SUCH;
        }
        if (w < 0 || w > MOST_WAIT) {
            return CANNOT_BE;
        }
        if (code != 0) {
            return code;
        }
        int outcome = drift.outcome(from, to, heavy, waters.tide + w);
        return Drift.keeperOf(outcome) == to ? w + Drift.tidesOf(outcome) : NONE;
    }

    /** Whether one shore can throw to the other: 0, or why the call is refused. */
    private int pairCode(int from, int to) {
        if (!chart.isShore(to) || from == to) {
            return NO_SUCH;
        }
        return throwerCode(from);
    }

    private int throwerCode(int from) {
        if (!chart.isShore(from)) {
            return NO_SUCH;
        }
        return chart.throwCell(from) == NONE ? NOT_NOW : 0;
    }

    public int best(int from, int to, int what) {
        int code = pairCode(from, to);
        if (code == NO_SUCH || what < 0 || what > 2) {
            return NO_SUCH;
        }
        if (code != 0) {
            return code;
        }
        int soonest = drift.soonest(from, to, waters.tide);
        if (soonest == NONE) {
            return NONE;
        }
        if (what == 0) {
            return Drift.arrivalOf(soonest);
        }
        return what == 1 ? Drift.waitOf(soonest) : Drift.weightOf(soonest);
    }

    public int reachers(int to) {
        if (!chart.isShore(to)) {
            return NO_SUCH;
        }
        int bits = 0;
        for (int from = 0; from < chart.shores; from++) {
            if (from != to && drift.soonest(from, to, waters.tide) != NONE) {
                bits |= 1 << from;
            }
        }
        return bits;
    }

    public int relay(int from, int to, int what) {
        boolean asks = what == 0 || what == 1 || what >= 10 && what < 10 + MOST_SHORES;
        if (pairCode(from, to) == NO_SUCH || !asks) {
            return NO_SUCH;
        }
        route.start(to, waters.tide);
        route.seek(drift, from, 0, 0, 1 << from);
        if (route.letters == 0) {
            return NONE;
        }
        if (what == 0) {
            return route.arrival;
        }
        return what == 1 ? route.letters : route.stop(what - 10);
    }

    public int keepers(int w) {
        if (w < 0 || w > MOST_WAIT) {
            return CANNOT_BE;
        }
        int bits = 0;
        for (int from = 0; from < chart.shores; from++) {
            int by = Drift.keeperOf(drift.outcome(from, NONE, false, waters.tide + w));
            if (by != NONE) {
                bits |= 1 << by;
            }
        }
        return bits;
    }

    public int without(int from, int to, int s) {
        int code = pairCode(from, to);
        if (code == NO_SUCH || !chart.isShore(s) || s == from || s == to) {
            return NO_SUCH;
        }
        if (code != 0) {
            return code;
        }
        int now = drift.soonest(from, to, waters.tide);
        if (now == NONE) {
            return NONE;
        }
        drift.empty = s;
        int then = drift.soonest(from, to, waters.tide);
        drift.empty = NONE;
        return then == NONE ? NONE : Drift.arrivalOf(then) - Drift.arrivalOf(now);
    }

    // ---- nets

    public int catches(int k, int n) {
        if (!chart.isCell(k)) {
            return NO_SUCH;
        }
        if (n < 1 || n > MOST_NET) {
            return CANNOT_BE;
        }
        if (!chart.isOpen(k)) {
            return NOT_NOW;
        }
        followAll(n);
        return caughtOn(k);
    }

    public int net(int n, int what) {
        if (what < 0 || what > 1) {
            return NO_SUCH;
        }
        if (n < 1 || n > MOST_NET) {
            return CANNOT_BE;
        }
        followAll(n);
        int where = NONE;
        int most = NONE;
        for (int k = 0; k < chart.cells(); k++) {
            int caught = chart.isOpen(k) ? Integer.bitCount(caughtOn(k)) : NONE;
            if (caught > most) {
                most = caught;
                where = k;
            }
        }
        return what == 0 ? where : most;
    }

    public long calm(int n) {
        if (n < 1 || n > MOST_NET) {
            return CANNOT_BE;
        }
        followAll(n);
        long calm = 0;
        for (int k = 0; k < chart.cells(); k++) {
            if (chart.isOpen(k)) {
                calm |= 1L << k;
            }
        }
        for (int b = 0; b < trails.length; b++) {
            if (waters.has(b) && waters.bottles[b].state == AT_SEA) {
                calm &= ~trails[b];
            }
        }
        return calm;
    }

    /** For each bottle the cells on which it is at sea, now and at the ends of n tides. */
    private void followAll(int n) {
        for (int b = 0; b < trails.length; b++) {
            trails[b] = 0;
            if (waters.has(b)) {
                probe.takeFrom(waters.bottles[b]);
                trails[b] = drift.trail(probe, waters.tide, n);
            }
        }
    }

    private int caughtOn(int k) {
        int bits = 0;
        for (int b = 0; b < trails.length; b++) {
            if ((trails[b] >> k & 1) != 0) {
                bits |= 1 << b;
            }
        }
        return bits;
    }

    public long deadly(boolean heavy) {
        long bits = 0;
        for (int k = 0; k < chart.cells(); k++) {
            if (chart.isOpen(k)) {
                probe.launch(NONE, NONE, heavy, k);
                drift.settle(probe, waters.tide);
                if (probe.state == BROKEN) {
                    bits |= 1L << k;
                }
            }
        }
        return bits;
    }

    public int eddy(int k, boolean heavy) {
        if (!chart.isCell(k)) {
            return NO_SUCH;
        }
        if (!chart.isOpen(k)) {
            return NOT_NOW;
        }
        probe.launch(NONE, NONE, heavy, k);
        for (int i = 1; i <= HORIZON; i++) {
            drift.go(probe, waters.tide + i - 1);
            if (probe.state != AT_SEA) {
                return NONE;
            }
            if (probe.cell == k && chart.phaseOf(i) == 0 && chart.moonOf(i) == 0) {
                return i;
            }
        }
        return NONE;
    }

    // ---- who threw it

    public int seen(int tray) {
        int code = seenCode(tray);
        if (code != 0 || !isTray(tray)) {
            return code;
        }
        witness.hear(drift, trays[tray], waters.tide, NONE);
        return witness.throwsSeen;
    }

    public int thrower(int tray, int k, int what) {
        if (!isTray(tray) || what < 0 || what > 3) {
            return NO_SUCH;
        }
        int code = seenCode(tray);
        if (code != 0) {
            return code;
        }
        if (k < 0) {
            return CANNOT_BE;
        }
        witness.hear(drift, trays[tray], waters.tide, k);
        if (k >= witness.throwsSeen) {
            return what == 1 ? NO_THROWER : NONE;
        }
        return witness.picked[what];
    }

    public int suspects(int tray) {
        int code = seenCode(tray);
        if (code != 0 || !isTray(tray)) {
            return code;
        }
        witness.hear(drift, trays[tray], waters.tide, NONE);
        return witness.shoresSeen;
    }

    /** Whether a tray tells what was seen: 0, or why the call is refused. */
    private int seenCode(int tray) {
        if (!isTray(tray)) {
            return NO_SUCH;
        }
        Tray told = trays[tray];
        if (told.missing()) {
            return TRAY_MISSING;
        }
        if (told.size < 2 || told.size > 2 * MOST_TWOS || told.size % 2 != 0) {
            return TOO_MANY;
        }
        for (int i = 0; i < told.size; i += 2) {
            long where = told.numberAt(i);
            long ago = told.numberAt(i + 1);
            if (where < 0 || where >= chart.cells() || ago < 0 || ago > MOST_WAIT) {
                return CANNOT_BE;
            }
        }
        return 0;
    }

    // ---- trays, images

    private static boolean isTray(int tray) {
        return tray >= 0 && tray < TRAYS;
    }

    public int numbers(int tray, int sort, int n) {
        if (!isTray(tray) || sort < 0 || sort >= SORTS) {
            return NO_SUCH;
        }
        if (n < 0 || n > MOST_NUMBERS) {
            return CANNOT_BE;
        }
        trays[tray].become(sort, n);
        return 0;
    }

    public long write(int tray, int i, long v) {
        if (!isTray(tray)) {
            return NO_SUCH;
        }
        if (trays[tray].missing()) {
            return TRAY_MISSING;
        }
        if (i < 0 || i >= trays[tray].size) {
            return NO_NUMBER;
        }
        trays[tray].put(i, v);
        return trays[tray].numberAt(i);
    }

    public int lists(int tray, int b) {
        if (!isTray(tray) || !waters.has(b)) {
            return NO_SUCH;
        }
        Tray into = trays[tray];
        if (into.missing()) {
            return TRAY_MISSING;
        }
        probe.takeFrom(waters.bottles[b]);
        for (int i = 0; i < into.size; i++) {
            into.put(i, probe.place());
            drift.carry(probe, waters.tide + i);
        }
        return into.size;
    }

    public int image(int i) {
        if (i < 0 || i >= IMAGES) {
            return NO_SUCH;
        }
        imageCharts[i].takeFrom(chart);
        imageWaters[i].takeFrom(waters);
        imaged[i] = true;
        return 0;
    }

    public int restore(int i) {
        if (i < 0 || i >= IMAGES) {
            return NO_SUCH;
        }
        if (!imaged[i]) {
            return NOT_NOW;
        }
        chart.takeFrom(imageCharts[i]);
        waters.takeFrom(imageWaters[i]);
        becomeOther();
        return 0;
    }

    public int count(int what) {
        switch (what) {
            case 0:
                return chart.wide;
            case 1:
                return chart.high;
            case 2:
                return chart.phases;
            case 3:
                return chart.shores;
            case 4:
                return waters.thrown;
            case 5:
                return waters.countOf(AT_SEA);
            case 6:
                return waters.countOf(KEPT);
            case 7:
                return waters.tide;
            case 8:
                return chart.phaseOf(waters.tide);
            case 9:
                return chart.moonOf(waters.tide);
            case 10:
                return past.calls;
            case 11:
                return taped;
            case 12:
                return chart.lines;
            case 13:
                return chart.rocks;
            default:
                return NONE;
        }
    }

    /** One bottle, thrown or only thought of. */
    private static final class Bottle {
        int state;
        int cell;
        int from = NONE;
        int to = NONE;
        boolean heavy;
        int age;
        int passed;
        int keeper = NONE;

        void launch(int by, int whom, boolean weight, int onto) {
            state = AT_SEA;
            cell = onto;
            from = by;
            to = whom;
            heavy = weight;
            age = 0;
            passed = 0;
            keeper = NONE;
        }

        void takeFrom(Bottle other) {
            state = other.state;
            cell = other.cell;
            from = other.from;
            to = other.to;
            heavy = other.heavy;
            age = other.age;
            passed = other.passed;
            keeper = other.keeper;
        }

        /** The cell on which it is at sea or lies. */
        int place() {
            return state == AT_SEA || state == LIES ? cell : NONE;
        }
    }

    /** All that undoing brings back: the bottles and the tide. */
    private static final class Waters {
        final Bottle[] bottles = new Bottle[MOST_BOTTLES];
        int thrown;
        int tide;

        Waters() {
            for (int b = 0; b < MOST_BOTTLES; b++) {
                bottles[b] = new Bottle();
            }
        }

        void clear() {
            thrown = 0;
            tide = 0;
        }

        void takeFrom(Waters other) {
            thrown = other.thrown;
            tide = other.tide;
            for (int b = 0; b < thrown && b < MOST_BOTTLES; b++) {
                bottles[b].takeFrom(other.bottles[b]);
            }
        }

        boolean has(int b) {
            return b >= 0 && b < thrown && b < MOST_BOTTLES;
        }

        int countOf(int state) {
            int n = 0;
            for (int b = 0; b < thrown && b < MOST_BOTTLES; b++) {
                if (bottles[b].state == state) {
                    n++;
                }
            }
            return n;
        }

        int lyingOn(int k) {
            int bits = 0;
            for (int b = 0; b < thrown && b < MOST_BOTTLES; b++) {
                if (bottles[b].state == LIES && bottles[b].cell == k) {
                    bits |= 1 << b;
                }
            }
            return bits;
        }

        int keptBy(int s) {
            int bits = 0;
            for (int b = 0; b < thrown && b < MOST_BOTTLES; b++) {
                if (bottles[b].state == KEPT && bottles[b].keeper == s) {
                    bits |= 1 << b;
                }
            }
            return bits;
        }

        int whyNotThrown(Chart chart, int from, int to) {
            if (!chart.isShore(from) || from == to || to != NONE && !chart.isShore(to)) {
                return NOT_THERE;
            }
            if (chart.throwCell(from) == NONE) {
                return NOT_OPEN;
            }
            return thrown >= MOST_BOTTLES ? THE_NINTH : 0;
        }

        int launch(Chart chart, int from, int to, boolean heavy) {
            if (thrown < 0 || thrown >= MOST_BOTTLES) {
                return NONE;
            }
            bottles[thrown].launch(from, to, heavy, chart.throwCell(from));
            thrown++;
            return thrown - 1;
        }

        int whyNotLifted(int b) {
            if (!has(b)) {
                return NOT_THERE;
            }
            return bottles[b].state == AT_SEA ? 0 : NOT_OPEN;
        }

        void raise(int b) {
            if (has(b)) {
                bottles[b].state = LIFTED;
            }
        }

        int swap(int one, int other) {
            int changed = 0;
            for (int b = 0; b < thrown && b < MOST_BOTTLES; b++) {
                Bottle bottle = bottles[b];
                if (bottle.state == AT_SEA && (bottle.cell == one || bottle.cell == other)) {
                    bottle.cell = bottle.cell == one ? other : one;
                    changed++;
                }
            }
            return changed;
        }

        void ebb(Drift drift) {
            for (int b = 0; b < thrown && b < MOST_BOTTLES; b++) {
                drift.carry(bottles[b], tide);
            }
            tide++;
        }
    }

    /** The calls that can be undone: a ring, with one place more for a call that may have done none. */
    private static final class Past {
        final Waters[] ring = new Waters[MOST_UNDONE + 1];
        int eldest;
        int calls;

        Past() {
            for (int i = 0; i <= MOST_UNDONE; i++) {
                ring[i] = new Waters();
            }
        }

        void clear() {
            eldest = 0;
            calls = 0;
        }

        private Waters slot(int i) {
            return ring[Math.floorMod(eldest + i, MOST_UNDONE + 1)];
        }

        void draft(Waters now) {
            slot(calls).takeFrom(now);
        }

        /** What was drafted can be brought back from now on. */
        void commit() {
            if (calls < MOST_UNDONE) {
                calls++;
            } else {
                eldest = Math.floorMod(eldest + 1, MOST_UNDONE + 1);
            }
        }

        void bringBack(int n, Waters into) {
            calls -= n;
            into.takeFrom(slot(calls));
        }
    }

    /** A row of numbers of one sort. */
    private static final class Tray {
        final long[] row = new long[MOST_NUMBERS];
        int sort = NONE;
        int size;

        boolean missing() {
            return sort == NONE;
        }

        void become(int which, int n) {
            sort = which;
            size = n;
            Arrays.fill(row, 0L);
        }

        long numberAt(int i) {
            return i >= 0 && i < row.length ? row[i] : 0L;
        }

        void put(int i, long v) {
            if (i >= 0 && i < row.length) {
                row[i] = cut(v);
            }
        }

        private long cut(long v) {
            switch (sort) {
                case 0:
                    return (byte) v;
                case 1:
                    return (short) v;
                case 2:
                    return (int) v;
                default:
                    return v;
            }
        }
    }

    /** The sea as it was read. */
    private static final class Chart {
        final int[] kinds = new int[MOST_CELLS];
        final int[] currents = new int[MOST_CELLS * MOST_PHASES];
        final int[] shoreCells = new int[MOST_SHORES];
        final int[] shoreWays = new int[MOST_SHORES];
        final int[] throwCells = new int[MOST_SHORES];
        final int[] walks = new int[MOST_SHORES];
        // One row for both laws: no token of the text adds more than one place to it.
        final int[] code = new int[MOST_TEXT];
        int windFirst;
        int windBehind;
        int keepsFirst;
        int keepsBehind;
        int wide;
        int high;
        int phases = 1;
        int shores;
        int rocks;
        int lines;
        int moon;
        int springs;
        int cork;

        void clear() {
            Arrays.fill(kinds, OPEN);
            Arrays.fill(currents, 0);
            windFirst = 0;
            windBehind = 0;
            keepsFirst = 0;
            keepsBehind = 0;
            wide = 0;
            high = 0;
            phases = 1;
            shores = 0;
            rocks = 0;
            lines = 0;
            moon = 0;
            springs = 0;
            cork = 0;
        }

        void takeFrom(Chart other) {
            System.arraycopy(other.kinds, 0, kinds, 0, MOST_CELLS);
            System.arraycopy(other.currents, 0, currents, 0, MOST_CELLS * MOST_PHASES);
            System.arraycopy(other.shoreCells, 0, shoreCells, 0, MOST_SHORES);
            System.arraycopy(other.shoreWays, 0, shoreWays, 0, MOST_SHORES);
            System.arraycopy(other.throwCells, 0, throwCells, 0, MOST_SHORES);
            System.arraycopy(other.walks, 0, walks, 0, MOST_SHORES);
            System.arraycopy(other.code, 0, code, 0, MOST_TEXT);
            windFirst = other.windFirst;
            windBehind = other.windBehind;
            keepsFirst = other.keepsFirst;
            keepsBehind = other.keepsBehind;
            wide = other.wide;
            high = other.high;
            phases = other.phases;
            shores = other.shores;
            rocks = other.rocks;
            lines = other.lines;
            moon = other.moon;
            springs = other.springs;
            cork = other.cork;
        }

        int cells() {
            return wide * high;
        }

        boolean isCell(int k) {
            return k >= 0 && k < wide * high && k < MOST_CELLS;
        }

        boolean isOpen(int k) {
            return k >= 0 && k < wide * high && k < MOST_CELLS && kinds[k] == OPEN;
        }

        boolean isShore(int s) {
            return s >= 0 && s < shores && s < MOST_SHORES;
        }

        int currentAt(int k, int phase) {
            boolean told = isCell(k) && phase >= 0 && phase < MOST_PHASES;
            return told ? currents[k * MOST_PHASES + phase] : 0;
        }

        /** The cell beside one, some way; NONE: over the edge. */
        int beside(int k, int way) {
            if (k < 0 || k >= wide * high || wide <= 0) {
                return NONE;
            }
            switch (way) {
                case NORTH:
                    return k >= wide ? k - wide : NONE;
                case EAST:
                    return k % wide < wide - 1 ? k + 1 : NONE;
                case SOUTH:
                    return k + wide < wide * high ? k + wide : NONE;
                case WEST:
                    return k % wide > 0 ? k - 1 : NONE;
                default:
                    return NONE;
            }
        }

        /** Once all is told: the cells of open sea to which shores throw, where there are such. */
        void aim() {
            for (int s = 0; s < shores && s < MOST_SHORES; s++) {
                int k = beside(shoreCells[s], shoreWays[s]);
                throwCells[s] = isOpen(k) ? k : NONE;
            }
        }

        int throwCell(int s) {
            return s >= 0 && s < shores && s < MOST_SHORES ? throwCells[s] : NONE;
        }

        int phaseOf(int tide) {
            return phases > 0 ? tide % phases : 0;
        }

        int moonOf(int tide) {
            return moon > 0 ? tide % moon : 0;
        }

        boolean isSpring(int tide) {
            return moon > 0 && tide % moon < springs;
        }
    }

    /** What tides do to bottles on a chart, and what comes of throws. */
    private static final class Drift {
        final Chart chart = new Chart();
        final Bottle thought = new Bottle();
        final int[] words = new int[LAW_WORDS];
        final int[] stack = new int[LAW_STACK];
        // Both rows hold what was found out since the sea became another; 0: not yet.
        byte[] winds;
        short[] outcomes;
        // The shore at which people are thought to walk no more.
        int empty = NONE;

        void forget() {
            if (winds != null) {
                Arrays.fill(winds, (byte) 0);
            }
            if (outcomes != null) {
                Arrays.fill(outcomes, (short) 0);
            }
        }

        int windAt(int k, int tide) {
            if (!chart.isCell(k) || chart.wide <= 0 || chart.windFirst >= chart.windBehind) {
                return 0;
            }
            if (winds == null) {
                winds = new byte[MOST_CELLS * MOST_PHASES * MOST_MOON];
            }
            int phase = chart.phaseOf(tide);
            int moon = chart.moonOf(tide);
            int slot = (k * MOST_PHASES + phase) * MOST_MOON + moon;
            if (slot < 0 || slot >= winds.length) {
                return 0;
            }
            if (winds[slot] == 0) {
                words[0] = k % chart.wide;
                words[1] = k / chart.wide;
                words[2] = phase;
                words[3] = moon;
                int told = Math.floorMod(lawSays(chart.windFirst, chart.windBehind), WAYS);
                winds[slot] = (byte) (told + 1);
            }
            return winds[slot] - 1;
        }

        /** What a law tells of the words; truths are 1 and 0. */
        private int lawSays(int first, int behind) {
            int top = 0;
            for (int i = first; i >= 0 && i < behind && i < MOST_TEXT; i++) {
                int op = chart.code[i];
                if (op < OPERATOR) {
                    int word = op - VARIABLE;
                    if (top >= LAW_STACK || word >= LAW_WORDS) {
                        return 0;
                    }
                    stack[top] = word < 0 ? op : words[word];
                    top++;
                    continue;
                }
                int taken = op == NOT ? 1 : 2;
                if (top < taken) {
                    return 0;
                }
                long b = stack[top - 1];
                top -= taken - 1;
                long a = stack[top - 1];
                long told = 0;
                switch (op) {
                    case OPERATOR + '+':
                        told = a + b;
                        break;
                    case OPERATOR + '-':
                        told = a - b;
                        break;
                    case OPERATOR + '*':
                        told = a * b;
                        break;
                    case OPERATOR + '=':
                        told = a == b ? 1 : 0;
                        break;
                    case OPERATOR + '<':
                        told = a < b ? 1 : 0;
                        break;
                    case OPERATOR + '>':
                        told = a > b ? 1 : 0;
                        break;
                    case AND:
                        told = a & b;
                        break;
                    case OR:
                        told = a | b;
                        break;
                    default:
                        told = 1 - a;
                        break;
                }
                stack[top - 1] = (int) Math.max(-LAW_BOUND, Math.min(LAW_BOUND, told));
            }
            return top > 0 ? stack[0] : 0;
        }

        /** One tide for one bottle. */
        void carry(Bottle b, int tide) {
            if (b.state != AT_SEA && b.state != LIES) {
                return;
            }
            go(b, tide);
            // One that broke in this tide neither is at sea any more nor lies: it grows no older.
            if (b.state == BROKEN) {
                return;
            }
            b.age++;
            if (b.state == AT_SEA && chart.cork > 0 && b.age >= chart.cork) {
                b.state = SUNK;
            }
            if (b.state == LIES) {
                find(b, tide);
            }
        }

        /** By the current, at springs again, and by the wind if it is light. */
        void go(Bottle b, int tide) {
            int phase = chart.phaseOf(tide);
            if (b.state == AT_SEA) {
                step(b, chart.currentAt(b.cell, phase));
            }
            if (b.state == AT_SEA && chart.isSpring(tide)) {
                step(b, chart.currentAt(b.cell, phase));
            }
            if (b.state == AT_SEA && !b.heavy) {
                step(b, windAt(b.cell, tide));
            }
        }

        private void step(Bottle b, int way) {
            int k = chart.beside(b.cell, way);
            if (!chart.isCell(k)) {
                return;
            }
            b.cell = k;
            if (chart.kinds[k] == ROCK) {
                b.state = BROKEN;
            } else if (chart.kinds[k] >= SHORE) {
                b.state = LIES;
            }
        }

        /** A bottle that lies is found, if people walk there now. */
        private void find(Bottle b, int tide) {
            int s = chart.isCell(b.cell) ? chart.kinds[b.cell] - SHORE : NONE;
            int phase = chart.phaseOf(tide);
            if (!chart.isShore(s) || s == empty || (chart.walks[s] >> phase & 1) == 0) {
                return;
            }
            if (b.to == NONE || b.to == s || keepsIt(b, s, phase)) {
                b.state = KEPT;
                b.keeper = s;
                return;
            }
            b.passed++;
            int k = chart.throwCell(s);
            if (k != NONE) {
                b.state = AT_SEA;
                b.cell = k;
            }
        }

        private boolean keepsIt(Bottle b, int finder, int phase) {
            if (chart.keepsFirst >= chart.keepsBehind) {
                return false;
            }
            words[0] = b.from;
            words[1] = b.to;
            words[2] = finder;
            words[3] = b.age;
            words[4] = b.passed;
            words[5] = b.heavy ? 1 : 0;
            words[6] = phase;
            return lawSays(chart.keepsFirst, chart.keepsBehind) != 0;
        }

        /** In how many tides it is neither at sea nor lies any more. NONE: not by the horizon. */
        int settle(Bottle b, int tide) {
            for (int i = 0; i < HORIZON; i++) {
                if (b.state != AT_SEA && b.state != LIES) {
                    return i;
                }
                carry(b, tide + i);
            }
            return b.state != AT_SEA && b.state != LIES ? HORIZON : NONE;
        }

        /** The cells on which it is at sea, now and at the ends of n tides, as bits. */
        long trail(Bottle b, int tide, int n) {
            long bits = 0;
            for (int i = 0; i <= n; i++) {
                if (i > 0) {
                    carry(b, tide + i - 1);
                }
                if (b.state == AT_SEA) {
                    bits |= 1L << b.cell;
                }
            }
            return bits;
        }

        /** By whom a throw at a tide is kept, and in how many tides behind it, in one number. */
        int outcome(int from, int to, boolean heavy, int tide) {
            int onto = chart.throwCell(from);
            if (onto == NONE) {
                return 1;
            }
            if (outcomes == null) {
                outcomes = new short[MOST_SHORES * MOST_SHORES * 2 * MOST_PHASES * MOST_MOON];
            }
            // No shore throws to itself: that place is for whom it may.
            int pair = from * MOST_SHORES + (to == NONE ? from : to);
            int thrown = pair * 2 + (heavy ? 1 : 0);
            int slot = (thrown * MOST_PHASES + chart.phaseOf(tide)) * MOST_MOON + chart.moonOf(tide);
            boolean known = empty == NONE && slot >= 0 && slot < outcomes.length;
            if (known && outcomes[slot] != 0) {
                return outcomes[slot];
            }
            thought.launch(from, to, heavy, onto);
            int within = 0;
            while (within < HORIZON && (thought.state == AT_SEA || thought.state == LIES)) {
                carry(thought, tide + within);
                within++;
            }
            int told = thought.state == KEPT ? within * 8 + thought.keeper + 2 : 1;
            if (known) {
                outcomes[slot] = (short) told;
            }
            return told;
        }

        static int keeperOf(int outcome) {
            return (outcome & 7) - 2;
        }

        static int tidesOf(int outcome) {
            return outcome >> 3;
        }

        /** The best throw from a tide on: tides, wait and weight in one number, the least being best. */
        int soonest(int from, int to, int tide) {
            int least = NONE;
            // No throw comes in fewer tides than one behind its wait.
            for (int w = 0; w <= MOST_WAIT && (least == NONE || w < least >> 6); w++) {
                for (int heavy = 0; heavy < 2; heavy++) {
                    int outcome = outcome(from, to, heavy == 1, tide + w);
                    int told = (w + tidesOf(outcome)) * 64 + w * 2 + heavy;
                    if (keeperOf(outcome) == to && (least == NONE || told < least)) {
                        least = told;
                    }
                }
            }
            return least;
        }

        static int arrivalOf(int soonest) {
            return soonest >> 6;
        }

        static int waitOf(int soonest) {
            return soonest >> 1 & 31;
        }

        static int weightOf(int soonest) {
            return soonest & 1;
        }
    }

    /** The search for the friends by whom one is reached soonest. */
    private static final class Relay {
        final int[] path = new int[MOST_SHORES];
        final int[] stops = new int[MOST_SHORES];
        int goal;
        int tide;
        int arrival;
        int letters;

        void start(int to, int now) {
            goal = to;
            tide = now;
            arrival = 0;
            letters = 0;
        }

        /** Goes on from a shore that has the letter; shores are tried in order, so the first of like ones stays. */
        private void seek(Drift drift, int s, int sent, int spent, int met) {
            if (sent >= MOST_SHORES) {
                return;
            }
            path[sent] = s;
            for (int next = 0; next < drift.chart.shores; next++) {
                int soonest = (met >> next & 1) != 0 ? NONE : drift.soonest(s, next, tide + spent);
                if (soonest != NONE) {
                    int comes = spent + Drift.arrivalOf(soonest);
                    if (next == goal) {
                        weigh(sent + 1, comes);
                    } else if (letters == 0 || comes < arrival) {
                        seek(drift, next, sent + 1, comes, met | 1 << next);
                    }
                }
            }
        }

        private void weigh(int sent, int comes) {
            if (letters == 0 || comes < arrival || comes == arrival && sent < letters) {
                arrival = comes;
                letters = sent;
                System.arraycopy(path, 0, stops, 0, MOST_SHORES);
            }
        }

        int stop(int k) {
            if (k < 0 || k > letters || k >= MOST_SHORES) {
                return NONE;
            }
            return k == letters ? goal : stops[k];
        }
    }

    /** The search for the throws that account for what was seen. */
    private static final class Witness {
        final Bottle thought = new Bottle();
        final int[] picked = new int[4];
        int throwsSeen;
        int shoresSeen;

        /** Counts the throws, and picks the one asked for. */
        void hear(Drift drift, Tray told, int now, int k) {
            throwsSeen = 0;
            shoresSeen = 0;
            int shores = drift.chart.shores;
            for (int from = 0; from < shores; from++) {
                for (int to = NONE; to < shores; to++) {
                    if (to != from && drift.chart.throwCell(from) != NONE) {
                        hearOf(drift, told, now, k, from, to);
                    }
                }
            }
        }

        private void hearOf(Drift drift, Tray told, int now, int k, int from, int to) {
            for (int heavy = 0; heavy < 2; heavy++) {
                for (int t = 0; t <= MOST_WAIT && t <= now; t++) {
                    thought.launch(from, to, heavy == 1, drift.chart.throwCell(from));
                    if (fits(drift, told, now, t)) {
                        if (throwsSeen == k) {
                            picked[0] = from;
                            picked[1] = to;
                            picked[2] = heavy;
                            picked[3] = t;
                        }
                        throwsSeen++;
                        shoresSeen |= 1 << from;
                    }
                }
            }
        }

        /** Whether the bottle thrown t tides ago was on each of the cells then. */
        private boolean fits(Drift drift, Tray told, int now, int t) {
            int met = 0;
            for (int ago = t; ago >= 0; ago--) {
                for (int i = 0; i < told.size; i += 2) {
                    if (told.numberAt(i + 1) == ago) {
                        if (told.numberAt(i) != thought.place()) {
                            return false;
                        }
                        met++;
                    }
                }
                drift.carry(thought, now - ago);
            }
            return met * 2 == told.size;
        }
    }

    /** Reads the text of a sea, token by token, up to its first fault. */
    private static final class Reader {
        private static final int END = 0;
        private static final int BAD = -1;
        private static final int WORD = 1;
        private static final int NUMBER = 2;
        private static final int MOST_DIGITS = 3;
        private static final int MOST_NESTED = 6;
        private static final int NO_TOKEN = 1;
        private static final int MISPLACED = 2;
        private static final int OUT_OF_BOUNDS = 3;
        private static final int ONE_TOO_MANY = 4;
        private static final String SIGNS = ";:+-*()[]=<>";

        // What is read goes here, so that a text with a fault leaves the sea that is.
        final Chart chart = new Chart();
        int kind;
        int place = NONE;
        private byte[] text = new byte[0];
        private int length;
        private int codes;
        // The token that comes next: a sign's kind is the sign itself.
        private int token;
        private int start;
        private int behind;
        private int value;

        /** Whether the first n bytes are a sea; the chart is of no use if they aren't. */
        boolean reads(byte[] bytes, int n) {
            text = bytes;
            length = Math.min(n, bytes.length);
            kind = 0;
            place = NONE;
            behind = 0;
            codes = 0;
            chart.clear();
            advance();
            boolean read = seaLine() && lineEnds();
            for (int i = 0; i < MOST_TEXT && read && token != END; i++) {
                read = otherLine() && lineEnds();
            }
            chart.aim();
            return read;
        }

        private void advance() {
            start = behind;
            while (start < length && (text[start] == 10 || text[start] == 32)) {
                start++;
            }
            behind = start;
            value = 0;
            if (start >= length) {
                token = END;
                return;
            }
            int sign = text[start] & 255;
            if (sign >= 'a' && sign <= 'z') {
                token = WORD;
                while (behind < length && text[behind] >= 'a' && text[behind] <= 'z') {
                    behind++;
                }
            } else if (sign >= '0' && sign <= '9') {
                while (behind < length && text[behind] >= '0' && text[behind] <= '9') {
                    if (behind - start < MOST_DIGITS) {
                        value = value * 10 + text[behind] - '0';
                    }
                    behind++;
                }
                token = behind - start > MOST_DIGITS ? BAD : NUMBER;
            } else {
                token = SIGNS.indexOf((char) sign) >= 0 ? sign : BAD;
                behind++;
            }
        }

        /** The token that comes next is at fault; one that is none is so ahead of all else. */
        private boolean refuse(int why) {
            kind = token == BAD ? NO_TOKEN : why;
            place = start;
            return false;
        }

        private boolean isWord(String word) {
            if (token != WORD || behind - start != word.length()) {
                return false;
            }
            for (int i = 0; i < word.length(); i++) {
                if (start + i >= length || text[start + i] != word.charAt(i)) {
                    return false;
                }
            }
            return true;
        }

        private boolean takeWord(String word) {
            if (!isWord(word)) {
                return refuse(MISPLACED);
            }
            advance();
            return true;
        }

        private boolean takeSign(int sign) {
            if (token != sign) {
                return refuse(MISPLACED);
            }
            advance();
            return true;
        }

        /** The N that comes next; NONE: it is at fault. */
        private int takeNumber(int least, int most) {
            if (token != NUMBER) {
                refuse(MISPLACED);
                return NONE;
            }
            if (value < least || value > most) {
                refuse(OUT_OF_BOUNDS);
                return NONE;
            }
            int told = value;
            advance();
            return told;
        }

        /** The cell that x and y tell, where that must be open sea; NONE: at fault. */
        private int takeCell(boolean open) {
            int x = takeNumber(0, chart.wide - 1);
            if (x == NONE) {
                return NONE;
            }
            boolean inside = token == NUMBER && value < chart.high;
            if (open && inside && !chart.isOpen(value * chart.wide + x)) {
                refuse(OUT_OF_BOUNDS);
                return NONE;
            }
            int y = takeNumber(0, chart.high - 1);
            return y == NONE ? NONE : y * chart.wide + x;
        }

        private boolean lineEnds() {
            if (!takeSign(';')) {
                return false;
            }
            chart.lines++;
            return true;
        }

        private boolean seaLine() {
            if (!takeWord("sea")) {
                return false;
            }
            int wide = takeNumber(2, MOST_SIDE);
            int high = wide == NONE ? NONE : takeNumber(2, MOST_SIDE);
            if (high == NONE || !takeWord("tides")) {
                return false;
            }
            int phases = takeNumber(1, MOST_PHASES);
            if (phases == NONE) {
                return false;
            }
            chart.wide = wide;
            chart.high = high;
            chart.phases = phases;
            return true;
        }

        private boolean otherLine() {
            if (isWord("rock")) {
                return rockLine();
            }
            if (isWord("shore")) {
                return shoreLine();
            }
            if (isWord("current")) {
                return currentLine();
            }
            if (isWord("wind")) {
                return windLine();
            }
            if (isWord("keeps")) {
                return keepsLine();
            }
            if (isWord("moon")) {
                return moonLine();
            }
            if (isWord("cork")) {
                return corkLine();
            }
            return refuse(MISPLACED);
        }

        private boolean rockLine() {
            advance();
            int k = takeCell(true);
            if (!chart.isCell(k)) {
                return false;
            }
            chart.kinds[k] = ROCK;
            chart.rocks++;
            return true;
        }

        private boolean shoreLine() {
            int s = chart.shores;
            if (s < 0 || s >= MOST_SHORES) {
                return refuse(ONE_TOO_MANY);
            }
            advance();
            int k = takeCell(true);
            if (!chart.isCell(k) || !takeWord("throws")) {
                return false;
            }
            int way = takeWay();
            if (way == NONE || !takeWord("walks")) {
                return false;
            }
            int walks = takeWalks();
            if (walks == NONE) {
                return false;
            }
            chart.kinds[k] = SHORE + s;
            chart.shoreCells[s] = k;
            chart.shoreWays[s] = way;
            chart.walks[s] = walks;
            chart.shores++;
            return true;
        }

        private int takeWay() {
            int way = NONE;
            if (isWord("north")) {
                way = NORTH;
            } else if (isWord("east")) {
                way = EAST;
            } else if (isWord("south")) {
                way = SOUTH;
            } else if (isWord("west")) {
                way = WEST;
            }
            if (way == NONE) {
                refuse(MISPLACED);
            } else {
                advance();
            }
            return way;
        }

        /** One phase or more, as bits; NONE: at fault. */
        private int takeWalks() {
            int bits = 0;
            for (int i = 0; i < MOST_TEXT && (i == 0 || token == NUMBER); i++) {
                int phase = takeNumber(0, chart.phases - 1);
                if (phase == NONE) {
                    return NONE;
                }
                bits |= 1 << phase;
            }
            return bits;
        }

        private boolean currentLine() {
            advance();
            int k = takeCell(false);
            if (!chart.isCell(k)) {
                return false;
            }
            for (int phase = 0; phase < chart.phases && phase < MOST_PHASES; phase++) {
                int way = takeNumber(0, WEST);
                if (way == NONE) {
                    return false;
                }
                chart.currents[k * MOST_PHASES + phase] = way;
            }
            return true;
        }

        private boolean moonLine() {
            advance();
            int moon = takeNumber(2, MOST_MOON);
            if (moon == NONE || !takeWord("springs")) {
                return false;
            }
            int springs = takeNumber(0, moon);
            if (springs == NONE) {
                return false;
            }
            chart.moon = moon;
            chart.springs = springs;
            return true;
        }

        private boolean corkLine() {
            advance();
            int cork = takeNumber(1, MOST_TIDES);
            if (cork == NONE) {
                return false;
            }
            chart.cork = cork;
            return true;
        }

        private boolean windLine() {
            advance();
            int first = codes;
            if (!takeSign(':') || !sum(0, false)) {
                return false;
            }
            chart.windFirst = first;
            chart.windBehind = codes;
            return true;
        }

        private boolean keepsLine() {
            advance();
            int first = codes;
            if (!takeSign(':') || !truth(0)) {
                return false;
            }
            chart.keepsFirst = first;
            chart.keepsBehind = codes;
            return true;
        }

        private void emit(int op) {
            if (codes >= 0 && codes < MOST_TEXT) {
                chart.code[codes] = op;
                codes++;
            }
        }

        // In what follows nested counts the not [ ( that stand open around.

        private boolean truth(int nested) {
            boolean read = both(nested);
            for (int i = 0; i < MOST_TEXT && read && isWord("or"); i++) {
                advance();
                read = both(nested);
                emit(OR);
            }
            return read;
        }

        private boolean both(int nested) {
            boolean read = unit(nested);
            for (int i = 0; i < MOST_TEXT && read && isWord("and"); i++) {
                advance();
                read = unit(nested);
                emit(AND);
            }
            return read;
        }

        private boolean unit(int nested) {
            boolean not = isWord("not");
            if (not || token == '[') {
                if (nested >= MOST_NESTED) {
                    return refuse(ONE_TOO_MANY);
                }
                advance();
                if (!not) {
                    return truth(nested + 1) && takeSign(']');
                }
                boolean read = unit(nested + 1);
                emit(NOT);
                return read;
            }
            if (!sum(nested, true)) {
                return false;
            }
            int compare = token;
            if (compare != '=' && compare != '<' && compare != '>') {
                return refuse(MISPLACED);
            }
            advance();
            boolean read = sum(nested, true);
            emit(OPERATOR + compare);
            return read;
        }

        private boolean sum(int nested, boolean keeps) {
            boolean read = term(nested, keeps);
            for (int i = 0; i < MOST_TEXT && read && (token == '+' || token == '-'); i++) {
                int sign = token;
                advance();
                read = term(nested, keeps);
                emit(OPERATOR + sign);
            }
            return read;
        }

        private boolean term(int nested, boolean keeps) {
            boolean read = atom(nested, keeps);
            for (int i = 0; i < MOST_TEXT && read && token == '*'; i++) {
                advance();
                read = atom(nested, keeps);
                emit(OPERATOR + '*');
            }
            return read;
        }

        private boolean atom(int nested, boolean keeps) {
            if (token == '(') {
                if (nested >= MOST_NESTED) {
                    return refuse(ONE_TOO_MANY);
                }
                advance();
                return sum(nested + 1, keeps) && takeSign(')');
            }
            if (token == NUMBER) {
                emit(value);
                advance();
                return true;
            }
            int word = keeps ? keepsWord() : windWord();
            if (word == NONE) {
                return refuse(MISPLACED);
            }
            emit(VARIABLE + word);
            advance();
            return true;
        }

        private int windWord() {
            if (isWord("x")) {
                return 0;
            }
            if (isWord("y")) {
                return 1;
            }
            if (isWord("tide")) {
                return 2;
            }
            return isWord("moon") ? 3 : NONE;
        }

        private int keepsWord() {
            if (isWord("from")) {
                return 0;
            }
            if (isWord("to")) {
                return 1;
            }
            if (isWord("finder")) {
                return 2;
            }
            if (isWord("age")) {
                return 3;
            }
            if (isWord("passed")) {
                return 4;
            }
            if (isWord("heavy")) {
                return 5;
            }
            return isWord("tide") ? 6 : NONE;
        }
    }
}
