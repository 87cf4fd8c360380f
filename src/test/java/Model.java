import java.util.ArrayDeque;
import java.util.ArrayList;
import java.util.Arrays;
import java.util.Deque;
import java.util.HashMap;
import java.util.List;
import java.util.Map;
import java.util.function.ToLongFunction;

/**
 * The document once more, told in another way and as slowly as it likes: nothing is kept from call to call but the
 * state itself, every tide is reckoned anew. ModelTest holds BottlePost against it.
 */
final class Model {
    static final int NONE = -1;

    /** The first fault of a text, thrown by the model's own parser. */
    static final class Fault extends RuntimeException {
        private static final long serialVersionUID = 1L;
        final int kind;
        final int place;

        Fault(int kind, int place) {
            this.kind = kind;
            this.place = place;
        }
    }

    record Token(String text, int place) { }

    record Shore(int x, int y, int way, List<Integer> walks) { }

    static final class Sea {
        int wide;
        int high;
        int phases = 1;
        int lines;
        int moon;
        int springs;
        int cork;
        boolean[][] rock = new boolean[6][6];
        int[][][] current = new int[6][6][6];
        List<Shore> shores = new ArrayList<>();
        ToLongFunction<Map<String, Integer>> wind;
        ToLongFunction<Map<String, Integer>> keeps;

        int cells() {
            return wide * high;
        }

        boolean isCell(long k) {
            return k >= 0 && k < cells();
        }

        int shoreOn(int k) {
            for (int s = 0; s < shores.size(); s++) {
                if (shores.get(s).y() * wide + shores.get(s).x() == k) {
                    return s;
                }
            }
            return NONE;
        }

        boolean rockOn(int k) {
            return rock[k / wide][k % wide];
        }

        boolean open(int k) {
            return isCell(k) && !rockOn(k) && shoreOn(k) == NONE;
        }

        /** The cell that way, or the cell itself where there is none. */
        int neighbour(int k, int way) {
            int x = k % wide + (way == 2 ? 1 : way == 4 ? -1 : 0);
            int y = k / wide + (way == 3 ? 1 : way == 1 ? -1 : 0);
            return x < 0 || y < 0 || x >= wide || y >= high ? k : y * wide + x;
        }

        int onto(int s) {
            Shore shore = shores.get(s);
            int here = shore.y() * wide + shore.x();
            int k = neighbour(here, shore.way());
            return k != here && open(k) ? k : NONE;
        }

        int moonAt(int tide) {
            return moon == 0 ? 0 : tide % moon;
        }

        int windAt(int k, int tide) {
            if (wind == null) {
                return 0;
            }
            Map<String, Integer> words = new HashMap<>();
            words.put("x", k % wide);
            words.put("y", k / wide);
            words.put("tide", tide % phases);
            words.put("moon", moonAt(tide));
            return (int) Math.floorMod(wind.applyAsLong(words), 5L);
        }
    }

    /** Recursive descent into closures. */
    static final class Parser {
        final List<Token> tokens = new ArrayList<>();
        final Sea sea = new Sea();
        int at;

        Parser(byte[] text) {
            int p = 0;
            while (p < text.length) {
                char c = (char) (text[p] & 255);
                int q = p + 1;
                if (c == 10 || c == 32) {
                    p++;
                    continue;
                }
                if (c >= 'a' && c <= 'z') {
                    while (q < text.length && text[q] >= 'a' && text[q] <= 'z') {
                        q++;
                    }
                } else if (c >= '0' && c <= '9') {
                    while (q < text.length && text[q] >= '0' && text[q] <= '9') {
                        q++;
                    }
                }
                StringBuilder word = new StringBuilder();
                for (int i = p; i < q; i++) {
                    word.append((char) (text[i] & 255));
                }
                tokens.add(new Token(word.toString(), p));
                p = q;
            }
            tokens.add(new Token("", text.length));
        }

        Token peek() {
            Token t = tokens.get(at);
            boolean good = t.text().isEmpty() || t.text().matches("[a-z]+|[0-9]{1,3}|[;:+*()=<>\\[\\]-]");
            if (!good) {
                throw new Fault(1, t.place());
            }
            return t;
        }

        boolean is(String text) {
            return peek().text().equals(text);
        }

        boolean isNumber() {
            return !peek().text().isEmpty() && Character.isDigit(peek().text().charAt(0));
        }

        Fault fault(int kind) {
            return new Fault(kind, peek().place());
        }

        void want(String text) {
            if (!is(text)) {
                throw fault(2);
            }
            at++;
        }

        int number(int least, int most) {
            if (!isNumber()) {
                throw fault(2);
            }
            int v = Integer.parseInt(peek().text());
            if (v < least || v > most) {
                throw fault(3);
            }
            at++;
            return v;
        }

        Sea parse() {
            want("sea");
            sea.wide = number(2, 6);
            sea.high = number(2, 6);
            want("tides");
            sea.phases = number(1, 6);
            want(";");
            sea.lines = 1;
            while (!is("")) {
                line();
                want(";");
                sea.lines++;
            }
            return sea;
        }

        int[] cell(boolean mustBeFree) {
            int x = number(0, sea.wide - 1);
            Fault here = fault(3);
            int y = number(0, sea.high - 1);
            if (mustBeFree && !sea.open(y * sea.wide + x)) {
                throw here;
            }
            return new int[] {x, y};
        }

        void line() {
            String word = peek().text();
            if (word.equals("shore") && sea.shores.size() == 6) {
                throw fault(4);
            }
            if (!List.of("rock", "shore", "current", "wind", "keeps", "moon", "cork").contains(word)) {
                throw fault(2);
            }
            at++;
            switch (word) {
                case "rock" -> {
                    int[] xy = cell(true);
                    sea.rock[xy[1]][xy[0]] = true;
                }
                case "shore" -> shore();
                case "current" -> {
                    int[] xy = cell(false);
                    for (int i = 0; i < sea.phases; i++) {
                        sea.current[xy[1]][xy[0]][i] = number(0, 4);
                    }
                }
                case "wind" -> {
                    want(":");
                    sea.wind = sum(0, List.of("x", "y", "tide", "moon"));
                }
                case "keeps" -> {
                    want(":");
                    sea.keeps = truth(0);
                }
                case "moon" -> {
                    int moon = number(2, 30);
                    want("springs");
                    sea.springs = number(0, moon);
                    sea.moon = moon;
                }
                default -> sea.cork = number(1, 99);
            }
        }

        void shore() {
            int[] xy = cell(true);
            want("throws");
            int way = List.of("north", "east", "south", "west").indexOf(peek().text()) + 1;
            if (way == 0) {
                throw fault(2);
            }
            at++;
            want("walks");
            List<Integer> walks = new ArrayList<>();
            do {
                walks.add(number(0, sea.phases - 1));
            } while (isNumber());
            sea.shores.add(new Shore(xy[0], xy[1], way, walks));
        }

        void nest(int depth) {
            if (depth == 6) {
                throw fault(4);
            }
            at++;
        }

        ToLongFunction<Map<String, Integer>> truth(int depth) {
            ToLongFunction<Map<String, Integer>> left = both(depth);
            while (is("or")) {
                at++;
                ToLongFunction<Map<String, Integer>> a = left;
                ToLongFunction<Map<String, Integer>> b = both(depth);
                left = words -> a.applyAsLong(words) == 1 || b.applyAsLong(words) == 1 ? 1 : 0;
            }
            return left;
        }

        ToLongFunction<Map<String, Integer>> both(int depth) {
            ToLongFunction<Map<String, Integer>> left = unit(depth);
            while (is("and")) {
                at++;
                ToLongFunction<Map<String, Integer>> a = left;
                ToLongFunction<Map<String, Integer>> b = unit(depth);
                left = words -> a.applyAsLong(words) == 1 && b.applyAsLong(words) == 1 ? 1 : 0;
            }
            return left;
        }

        ToLongFunction<Map<String, Integer>> unit(int depth) {
            if (is("not")) {
                nest(depth);
                ToLongFunction<Map<String, Integer>> inner = unit(depth + 1);
                return words -> inner.applyAsLong(words) == 1 ? 0 : 1;
            }
            if (is("[")) {
                nest(depth);
                ToLongFunction<Map<String, Integer>> inner = truth(depth + 1);
                want("]");
                return inner;
            }
            List<String> names = List.of("from", "to", "finder", "age", "passed", "heavy", "tide");
            ToLongFunction<Map<String, Integer>> a = sum(depth, names);
            String op = peek().text();
            if (!List.of("=", "<", ">").contains(op)) {
                throw fault(2);
            }
            at++;
            ToLongFunction<Map<String, Integer>> b = sum(depth, names);
            return words -> {
                int order = Long.compare(a.applyAsLong(words), b.applyAsLong(words));
                return order == (op.equals("<") ? -1 : op.equals(">") ? 1 : 0) ? 1 : 0;
            };
        }

        static long kept(long v) {
            return v > 1_000_000 ? 1_000_000 : v < -1_000_000 ? -1_000_000 : v;
        }

        ToLongFunction<Map<String, Integer>> sum(int depth, List<String> names) {
            ToLongFunction<Map<String, Integer>> left = term(depth, names);
            while (is("+") || is("-")) {
                int sign = is("+") ? 1 : -1;
                at++;
                ToLongFunction<Map<String, Integer>> a = left;
                ToLongFunction<Map<String, Integer>> b = term(depth, names);
                left = words -> kept(a.applyAsLong(words) + sign * b.applyAsLong(words));
            }
            return left;
        }

        ToLongFunction<Map<String, Integer>> term(int depth, List<String> names) {
            ToLongFunction<Map<String, Integer>> left = atom(depth, names);
            while (is("*")) {
                at++;
                ToLongFunction<Map<String, Integer>> a = left;
                ToLongFunction<Map<String, Integer>> b = atom(depth, names);
                left = words -> kept(a.applyAsLong(words) * b.applyAsLong(words));
            }
            return left;
        }

        ToLongFunction<Map<String, Integer>> atom(int depth, List<String> names) {
            if (isNumber()) {
                int v = number(0, 999);
                return words -> v;
            }
            if (is("(")) {
                nest(depth);
                ToLongFunction<Map<String, Integer>> inner = sum(depth + 1, names);
                want(")");
                return inner;
            }
            String name = peek().text();
            if (!names.contains(name)) {
                throw fault(2);
            }
            at++;
            return words -> words.get(name);
        }
    }

    enum State { SEA, LIES, KEPT, BROKEN, SUNK, LIFTED }

    record Bottle(State state, int cell, int from, int to, boolean heavy, int age, int passed, int keeper) {
        boolean afloat() {
            return state == State.SEA || state == State.LIES;
        }

        int place() {
            return afloat() ? cell : NONE;
        }

        Bottle is(State next) {
            return new Bottle(next, cell, from, to, heavy, age, passed, keeper);
        }

        Bottle on(int k) {
            return new Bottle(state, k, from, to, heavy, age, passed, keeper);
        }
    }

    record Waters(List<Bottle> bottles, int tide) { }

    record Image(Sea sea, Waters waters) { }

    record Tray(int sort, long[] row) { }

    private final List<Byte> tape = new ArrayList<>();
    private Sea sea = new Sea();
    private Waters now = new Waters(List.of(), 0);
    private final Deque<Waters> past = new ArrayDeque<>();
    private int faultKind;
    private int faultPlace = NONE;
    private final Tray[] trays = new Tray[4];
    private final Image[] images = new Image[2];

    // one tide for one bottle; deserted: a shore at which nobody walks

    private Bottle move(Bottle b, int way) {
        if (b.state() != State.SEA) {
            return b;
        }
        Bottle there = b.on(sea.neighbour(b.cell(), way));
        if (sea.rockOn(there.cell())) {
            return there.is(State.BROKEN);
        }
        return sea.shoreOn(there.cell()) != NONE ? there.is(State.LIES) : there;
    }

    private Bottle drifted(Bottle b, int tide) {
        int phase = tide % sea.phases;
        int times = sea.moon > 0 && tide % sea.moon < sea.springs ? 2 : 1;
        for (int i = 0; i < times; i++) {
            b = move(b, sea.current[b.cell() / sea.wide][b.cell() % sea.wide][phase]);
        }
        return b.heavy() ? b : move(b, sea.windAt(b.cell(), tide));
    }

    private Bottle tide(Bottle b, int tide, int deserted) {
        if (!b.afloat()) {
            return b;
        }
        b = drifted(b, tide);
        if (!b.afloat()) {
            return b;
        }
        b = new Bottle(b.state(), b.cell(), b.from(), b.to(), b.heavy(), b.age() + 1, b.passed(), b.keeper());
        if (b.state() == State.SEA && sea.cork > 0 && b.age() >= sea.cork) {
            return b.is(State.SUNK);
        }
        if (b.state() != State.LIES) {
            return b;
        }
        int s = sea.shoreOn(b.cell());
        if (s == deserted || !sea.shores.get(s).walks().contains(tide % sea.phases)) {
            return b;
        }
        if (b.to() == NONE || b.to() == s || lawKeeps(b, s, tide)) {
            return new Bottle(State.KEPT, b.cell(), b.from(), b.to(), b.heavy(), b.age(), b.passed(), s);
        }
        b = new Bottle(b.state(), b.cell(), b.from(), b.to(), b.heavy(), b.age(), b.passed() + 1, b.keeper());
        return sea.onto(s) == NONE ? b : b.on(sea.onto(s)).is(State.SEA);
    }

    private boolean lawKeeps(Bottle b, int finder, int tide) {
        if (sea.keeps == null) {
            return false;
        }
        Map<String, Integer> words = new HashMap<>();
        words.put("from", b.from());
        words.put("to", b.to());
        words.put("finder", finder);
        words.put("age", b.age());
        words.put("passed", b.passed());
        words.put("heavy", b.heavy() ? 1 : 0);
        words.put("tide", tide % sea.phases);
        return sea.keeps.applyAsLong(words) == 1;
    }

    /** A bottle as it is in 0, 1, .. n tides. */
    private List<Bottle> life(Bottle b, int tide, int n, int deserted) {
        List<Bottle> life = new ArrayList<>(List.of(b));
        for (int i = 0; i < n; i++) {
            b = tide(b, tide + i, deserted);
            life.add(b);
        }
        return life;
    }

    private List<Bottle> life(int b, int n) {
        return life(now.bottles().get(b), now.tide(), n, NONE);
    }

    private Bottle fresh(int from, int to, boolean heavy) {
        return new Bottle(State.SEA, sea.onto(from), from, to, heavy, 0, 0, NONE);
    }

    private boolean isShore(long s) {
        return s >= 0 && s < sea.shores.size();
    }

    private boolean isBottle(long b) {
        return b >= 0 && b < now.bottles().size();
    }

    // ---- the sea

    int feed(int a, int b, int c, int d, int e) {
        if (tape.size() > 880) {
            return -5;
        }
        for (int v : new int[] {a, b, c, d, e}) {
            tape.addAll(List.of((byte) (v >> 24), (byte) (v >> 16), (byte) (v >> 8), (byte) v));
        }
        return tape.size();
    }

    int sea(int n) {
        if (n < 0 || n > tape.size()) {
            return -3;
        }
        byte[] text = new byte[n];
        for (int i = 0; i < n; i++) {
            text[i] = tape.get(i);
        }
        tape.clear();
        faultKind = 0;
        faultPlace = NONE;
        try {
            sea = new Parser(text).parse();
        } catch (Fault f) {
            faultKind = f.kind;
            faultPlace = f.place;
            return -30 - f.kind;
        }
        now = new Waters(List.of(), 0);
        past.clear();
        return sea.lines;
    }

    int fault(int what) {
        return what == 0 ? faultKind : what == 1 ? faultPlace : NONE;
    }

    int cell(int k) {
        if (!sea.isCell(k)) {
            return -2;
        }
        return sea.rockOn(k) ? 1 : sea.shoreOn(k) == NONE ? 0 : 10 + sea.shoreOn(k);
    }

    int shore(int s, int what) {
        if (!isShore(s) || what < 0 || what > 5) {
            return -2;
        }
        Shore shore = sea.shores.get(s);
        int k = shore.y() * sea.wide + shore.x();
        int bits = 0;
        for (int p : shore.walks()) {
            bits |= 1 << p;
        }
        int lie = 0;
        int kept = 0;
        for (int b = 0; b < now.bottles().size(); b++) {
            Bottle bottle = now.bottles().get(b);
            lie |= bottle.state() == State.LIES && bottle.cell() == k ? 1 << b : 0;
            kept |= bottle.keeper() == s ? 1 << b : 0;
        }
        return new int[] {k, shore.way(), bits, sea.onto(s), lie, kept}[what];
    }

    int current(int k, int phase) {
        if (!sea.isCell(k) || phase < 0 || phase >= sea.phases) {
            return -2;
        }
        return sea.current[k / sea.wide][k % sea.wide][phase];
    }

    int wind(int k, int n) {
        if (!sea.isCell(k)) {
            return -2;
        }
        return n < 0 || n > 999 ? -3 : sea.windAt(k, now.tide() + n);
    }

    int bottle(int b, int what) {
        if (!isBottle(b) || what < 0 || what > 7) {
            return -8;
        }
        Bottle x = now.bottles().get(b);
        return new int[] {x.state().ordinal(), x.cell(), x.from(), x.to(), x.heavy() ? 1 : 0, x.age(), x.passed(),
            x.keeper()}[what];
    }

    // ---- deeds

    private void change(Waters next) {
        past.addLast(now);
        if (past.size() > 10) {
            past.removeFirst();
        }
        now = next;
    }

    private Waters ebb(Waters w) {
        List<Bottle> next = new ArrayList<>();
        for (Bottle b : w.bottles()) {
            next.add(tide(b, w.tide(), NONE));
        }
        return new Waters(next, w.tide() + 1);
    }

    private int whyNotThrow(Waters w, int from, int to) {
        if (!isShore(from) || to != NONE && !isShore(to) || from == to) {
            return 1;
        }
        return sea.onto(from) == NONE ? 2 : w.bottles().size() == 8 ? 3 : 0;
    }

    private Waters thrown(Waters w, int from, int to, boolean heavy) {
        List<Bottle> next = new ArrayList<>(w.bottles());
        next.add(fresh(from, to, heavy));
        return new Waters(next, w.tide());
    }

    private int whyNotLift(Waters w, int b) {
        if (b < 0 || b >= w.bottles().size()) {
            return 1;
        }
        return w.bottles().get(b).state() == State.SEA ? 0 : 2;
    }

    private Waters lifted(Waters w, int b) {
        List<Bottle> next = new ArrayList<>(w.bottles());
        next.set(b, next.get(b).is(State.LIFTED));
        return new Waters(next, w.tide());
    }

    int throwsIt(int from, int to, boolean heavy) {
        int why = whyNotThrow(now, from, to);
        if (why != 0) {
            return -10 - why;
        }
        change(thrown(now, from, to, heavy));
        return now.bottles().size() - 1;
    }

    private static int kept(Waters w) {
        return (int) w.bottles().stream().filter(b -> b.state() == State.KEPT).count();
    }

    int tides(int n) {
        if (n < 1 || n > 99) {
            return -3;
        }
        Waters w = now;
        for (int i = 0; i < n; i++) {
            w = ebb(w);
        }
        int more = kept(w) - kept(now);
        change(w);
        return more;
    }

    int storm(int a, int b) {
        if (!sea.isCell(a) || !sea.isCell(b) || a == b) {
            return -2;
        }
        if (!sea.open(a) || !sea.open(b)) {
            return -5;
        }
        int moved = 0;
        List<Bottle> next = new ArrayList<>();
        for (Bottle x : now.bottles()) {
            boolean goes = x.state() == State.SEA && (x.cell() == a || x.cell() == b);
            next.add(goes ? x.on(a + b - x.cell()) : x);
            moved += goes ? 1 : 0;
        }
        if (moved > 0) {
            change(new Waters(next, now.tide()));
        }
        return moved;
    }

    int lift(int b) {
        int why = whyNotLift(now, b);
        if (why != 0) {
            return -10 - why;
        }
        change(lifted(now, b));
        return now.bottles().get(b).cell();
    }

    int undo(int n) {
        if (n < 1 || n > 10 || n > past.size()) {
            return -3;
        }
        for (int i = 0; i < n; i++) {
            now = past.removeLast();
        }
        return past.size();
    }

    /** The waters behind a deed, or null, with why in the array. */
    private Waters deed(Waters w, long v, int[] why) {
        why[0] = 0;
        if (v == NONE) {
            return ebb(w);
        }
        if (v >= 1000 && v <= 1007) {
            why[0] = whyNotLift(w, (int) v - 1000);
            return why[0] == 0 ? lifted(w, (int) v - 1000) : null;
        }
        if (v < 0 || v > 999 || v % 10 > 1) {
            why[0] = 1;
            return null;
        }
        int from = (int) v / 100;
        int to = (int) v / 10 % 10 == 9 ? NONE : (int) v / 10 % 10;
        why[0] = whyNotThrow(w, from, to);
        return why[0] == 0 ? thrown(w, from, to, v % 10 == 1) : null;
    }

    private boolean isTray(int tray) {
        return tray >= 0 && tray < 4;
    }

    int judge(int tray, int what) {
        if (!isTray(tray) || what < 0 || what > 3) {
            return -2;
        }
        if (trays[tray] == null) {
            return -6;
        }
        Waters w = now;
        int place = NONE;
        int[] why = new int[1];
        long[] row = trays[tray].row();
        for (int i = 0; i < row.length && place == NONE; i++) {
            Waters next = deed(w, row[i], why);
            if (next == null) {
                place = i;
            } else {
                w = next;
            }
        }
        return new int[] {place, why[0], w.bottles().size(), kept(w)}[what];
    }

    int perform(int tray) {
        if (!isTray(tray)) {
            return -2;
        }
        if (trays[tray] == null) {
            return -6;
        }
        Waters w = now;
        int done = 0;
        for (long v : trays[tray].row()) {
            Waters next = deed(w, v, new int[1]);
            if (next == null) {
                break;
            }
            w = next;
            done++;
        }
        if (done > 0) {
            change(w);
        }
        return done;
    }

    private int draw;

    private int draw() {
        draw = draw * 1103515245 + 12345;
        return draw >>> 16;
    }

    int season(int seed, int times) {
        if (times < 1 || times > 40) {
            return -3;
        }
        if (sea.shores.isEmpty()) {
            return -5;
        }
        draw = seed;
        Waters w = now;
        int could = 0;
        for (int i = 0; i < times; i++) {
            int kind = draw() % 4;
            int v = -1;
            if (kind == 2) {
                int from = draw() % sea.shores.size();
                int to = draw() % sea.shores.size();
                int heavy = draw() % 2;
                v = from * 100 + (from == to ? 9 : to) * 10 + heavy;
            } else if (kind == 3) {
                v = 1000 + draw() % 8;
            }
            Waters next = deed(w, v, new int[1]);
            if (next != null) {
                w = next;
                could++;
            }
        }
        if (could > 0) {
            change(w);
        }
        return could;
    }

    // ---- to come

    int fate(int b, int what) {
        if (!isBottle(b) || what < 0 || what > 2) {
            return -8;
        }
        List<Bottle> life = life(b, 200);
        Bottle end = life.get(200);
        int first = NONE;
        for (int i = 200; i >= 0 && !life.get(i).afloat(); i--) {
            first = i;
        }
        return new int[] {end.state().ordinal(), first, end.keeper()}[what];
    }

    int whereIn(int b, int n) {
        if (!isBottle(b)) {
            return -2;
        }
        return n < 0 || n > 200 ? -3 : life(b, n).get(n).place();
    }

    int comesTo(int b, int k) {
        if (!isBottle(b) || !sea.isCell(k)) {
            return -2;
        }
        List<Bottle> life = life(b, 200);
        for (int i = 0; i <= 200; i++) {
            if (life.get(i).place() == k) {
                return i;
            }
        }
        return NONE;
    }

    private int keptBy(int from, int to, boolean heavy, int tide, int deserted) {
        return sea.onto(from) == NONE ? NONE : life(fresh(from, to, heavy), tide, 200, deserted).get(200).keeper();
    }

    /** Tides behind the throw by which it is kept by whom it is to. */
    private int reached(int from, int to, boolean heavy, int tide, int deserted) {
        if (sea.onto(from) == NONE) {
            return NONE;
        }
        List<Bottle> life = life(fresh(from, to, heavy), tide, 200, deserted);
        for (int i = 0; i <= 200; i++) {
            if (life.get(i).keeper() == to) {
                return i;
            }
        }
        return NONE;
    }

    int keeper(int from, int to, boolean heavy, int w) {
        if (!isShore(from) || to != NONE && !isShore(to) || from == to) {
            return -2;
        }
        if (w < 0 || w > 30) {
            return -3;
        }
        return sea.onto(from) == NONE ? -5 : keptBy(from, to, heavy, now.tide() + w, NONE);
    }

    int reaches(int from, int to, boolean heavy, int w) {
        if (!isShore(from) || !isShore(to) || from == to) {
            return -2;
        }
        if (w < 0 || w > 30) {
            return -3;
        }
        if (sea.onto(from) == NONE) {
            return -5;
        }
        int t = reached(from, to, heavy, now.tide() + w, NONE);
        return t == NONE ? NONE : w + t;
    }

    /** Tides, w, weight; null: none. */
    private int[] bestOf(int from, int to, int tide, int deserted) {
        int[] best = null;
        for (int w = 0; w <= 30; w++) {
            for (int heavy = 0; heavy < 2; heavy++) {
                int t = reached(from, to, heavy == 1, tide + w, deserted);
                if (t != NONE && (best == null || w + t < best[0])) {
                    best = new int[] {w + t, w, heavy};
                }
            }
        }
        return best;
    }

    int best(int from, int to, int what) {
        if (!isShore(from) || !isShore(to) || from == to || what < 0 || what > 2) {
            return -2;
        }
        if (sea.onto(from) == NONE) {
            return -5;
        }
        int[] best = bestOf(from, to, now.tide(), NONE);
        return best == null ? NONE : best[what];
    }

    int reachers(int to) {
        if (!isShore(to)) {
            return -2;
        }
        int bits = 0;
        for (int s = 0; s < sea.shores.size(); s++) {
            bits |= s != to && bestOf(s, to, now.tide(), NONE) != null ? 1 << s : 0;
        }
        return bits;
    }

    private void routes(List<Integer> path, int spent, int to, List<int[]> all) {
        int last = path.get(path.size() - 1);
        if (last == to) {
            int[] one = new int[path.size() + 1];
            one[0] = spent;
            for (int i = 0; i < path.size(); i++) {
                one[i + 1] = path.get(i);
            }
            all.add(one);
            return;
        }
        for (int s = 0; s < sea.shores.size(); s++) {
            if (!path.contains(s)) {
                int[] best = bestOf(last, s, now.tide() + spent, NONE);
                if (best != null) {
                    List<Integer> more = new ArrayList<>(path);
                    more.add(s);
                    routes(more, spent + best[0], to, all);
                }
            }
        }
    }

    int relay(int from, int to, int what) {
        boolean asks = what == 0 || what == 1 || what >= 10 && what <= 15;
        if (!isShore(from) || !isShore(to) || from == to || !asks) {
            return -2;
        }
        List<int[]> all = new ArrayList<>();
        routes(List.of(from), 0, to, all);
        if (all.isEmpty()) {
            return NONE;
        }
        all.sort((a, b) -> a[0] != b[0] ? a[0] - b[0] : a.length != b.length ? a.length - b.length
            : Arrays.compare(a, b));
        int[] first = all.get(0);
        if (what == 0) {
            return first[0];
        }
        return what == 1 ? first.length - 2 : what - 9 < first.length ? first[what - 9] : NONE;
    }

    int keepers(int w) {
        if (w < 0 || w > 30) {
            return -3;
        }
        int bits = 0;
        for (int s = 0; s < sea.shores.size(); s++) {
            int by = keptBy(s, NONE, false, now.tide() + w, NONE);
            bits |= by == NONE ? 0 : 1 << by;
        }
        return bits;
    }

    int without(int from, int to, int s) {
        if (!isShore(from) || !isShore(to) || !isShore(s) || from == to || from == s || to == s) {
            return -2;
        }
        if (sea.onto(from) == NONE) {
            return -5;
        }
        int[] with = bestOf(from, to, now.tide(), NONE);
        int[] less = bestOf(from, to, now.tide(), s);
        return with == null || less == null ? NONE : less[0] - with[0];
    }

    // ---- nets

    private int caught(int k, int n) {
        int bits = 0;
        for (int b = 0; b < now.bottles().size(); b++) {
            for (Bottle x : life(b, n)) {
                bits |= x.place() == k ? 1 << b : 0;
            }
        }
        return bits;
    }

    int catches(int k, int n) {
        if (!sea.isCell(k)) {
            return -2;
        }
        if (n < 1 || n > 60) {
            return -3;
        }
        return sea.open(k) ? caught(k, n) : -5;
    }

    int net(int n, int what) {
        if (what < 0 || what > 1) {
            return -2;
        }
        if (n < 1 || n > 60) {
            return -3;
        }
        int[] best = {NONE, NONE};
        for (int k = 0; k < sea.cells(); k++) {
            if (sea.open(k) && Integer.bitCount(caught(k, n)) > best[1]) {
                best = new int[] {k, Integer.bitCount(caught(k, n))};
            }
        }
        return best[what];
    }

    long calm(int n) {
        if (n < 1 || n > 60) {
            return -3;
        }
        long bits = 0;
        for (int k = 0; k < sea.cells(); k++) {
            boolean calm = sea.open(k);
            for (int b = 0; b < now.bottles().size(); b++) {
                if (now.bottles().get(b).state() == State.SEA) {
                    for (Bottle x : life(b, n)) {
                        calm &= x.state() != State.SEA || x.cell() != k;
                    }
                }
            }
            bits |= calm ? 1L << k : 0;
        }
        return bits;
    }

    long deadly(boolean heavy) {
        long bits = 0;
        for (int k = 0; k < sea.cells(); k++) {
            if (sea.open(k)) {
                Bottle b = new Bottle(State.SEA, k, NONE, NONE, heavy, 0, 0, NONE);
                bits |= life(b, now.tide(), 200, NONE).get(200).state() == State.BROKEN ? 1L << k : 0;
            }
        }
        return bits;
    }

    int eddy(int k, boolean heavy) {
        if (!sea.isCell(k)) {
            return -2;
        }
        if (!sea.open(k)) {
            return -5;
        }
        Bottle b = new Bottle(State.SEA, k, NONE, NONE, heavy, 0, 0, NONE);
        int tide = now.tide();
        for (int i = 1; i <= 200 && b.state() == State.SEA; i++) {
            b = drifted(b, tide + i - 1);
            boolean same = (tide + i) % sea.phases == tide % sea.phases && sea.moonAt(tide + i) == sea.moonAt(tide);
            if (b.state() == State.SEA && b.cell() == k && same) {
                return i;
            }
        }
        return NONE;
    }

    // ---- who threw it

    private List<int[]> accounts(long[] row) {
        List<int[]> all = new ArrayList<>();
        for (int from = 0; from < sea.shores.size(); from++) {
            for (int to = NONE; to < sea.shores.size(); to++) {
                for (int heavy = 0; heavy < 2; heavy++) {
                    for (int t = 0; t <= Math.min(30, now.tide()); t++) {
                        boolean fits = sea.onto(from) != NONE && from != to;
                        List<Bottle> life = fits
                            ? life(fresh(from, to, heavy == 1), now.tide() - t, t, NONE) : List.of();
                        for (int i = 0; fits && i < row.length; i += 2) {
                            fits = row[i + 1] <= t && life.get(t - (int) row[i + 1]).place() == row[i];
                        }
                        if (fits) {
                            all.add(new int[] {from, to, heavy, t});
                        }
                    }
                }
            }
        }
        return all;
    }

    private int seenCode(int tray) {
        if (!isTray(tray)) {
            return -2;
        }
        if (trays[tray] == null) {
            return -6;
        }
        long[] row = trays[tray].row();
        if (row.length < 2 || row.length > 8 || row.length % 2 == 1) {
            return -4;
        }
        for (int i = 0; i < row.length; i += 2) {
            if (!sea.isCell(row[i]) || row[i + 1] < 0 || row[i + 1] > 30) {
                return -3;
            }
        }
        return 0;
    }

    int seen(int tray) {
        int code = seenCode(tray);
        return code != 0 ? code : accounts(trays[tray].row()).size();
    }

    int thrower(int tray, int k, int what) {
        if (what < 0 || what > 3) {
            return -2;
        }
        int code = seenCode(tray);
        if (code != 0) {
            return code;
        }
        if (k < 0) {
            return -3;
        }
        List<int[]> all = accounts(trays[tray].row());
        return k < all.size() ? all.get(k)[what] : what == 1 ? -9 : NONE;
    }

    int suspects(int tray) {
        int code = seenCode(tray);
        if (code != 0) {
            return code;
        }
        int bits = 0;
        for (int[] one : accounts(trays[tray].row())) {
            bits |= 1 << one[0];
        }
        return bits;
    }

    // ---- trays, images

    int numbers(int tray, int sort, int n) {
        if (!isTray(tray) || sort < 0 || sort > 3) {
            return -2;
        }
        if (n < 0 || n > 40) {
            return -3;
        }
        trays[tray] = new Tray(sort, new long[n]);
        return 0;
    }

    long write(int tray, int i, long v) {
        if (!isTray(tray)) {
            return -2;
        }
        if (trays[tray] == null) {
            return -6;
        }
        if (i < 0 || i >= trays[tray].row().length) {
            return -7;
        }
        int away = 64 - (8 << trays[tray].sort());
        trays[tray].row()[i] = v << away >> away;
        return trays[tray].row()[i];
    }

    int lists(int tray, int b) {
        if (!isTray(tray) || !isBottle(b)) {
            return -2;
        }
        if (trays[tray] == null) {
            return -6;
        }
        long[] row = trays[tray].row();
        for (int i = 0; i < row.length; i++) {
            row[i] = life(b, i).get(i).place();
        }
        return row.length;
    }

    int image(int i) {
        if (i < 0 || i > 1) {
            return -2;
        }
        images[i] = new Image(sea, now);
        return 0;
    }

    int restore(int i) {
        if (i < 0 || i > 1) {
            return -2;
        }
        if (images[i] == null) {
            return -5;
        }
        sea = images[i].sea();
        now = images[i].waters();
        past.clear();
        return 0;
    }

    int count(int what) {
        int afloat = (int) now.bottles().stream().filter(b -> b.state() == State.SEA).count();
        int rocks = 0;
        for (boolean[] row : sea.rock) {
            for (boolean rock : row) {
                rocks += rock ? 1 : 0;
            }
        }
        int[] all = {sea.wide, sea.high, sea.phases, sea.shores.size(), now.bottles().size(), afloat, kept(now),
            now.tide(), now.tide() % sea.phases, sea.moonAt(now.tide()), past.size(), tape.size(), sea.lines, rocks};
        return what < 0 || what >= all.length ? NONE : all[what];
    }
}
