import java.util.Random;

/** Runs of calls by draws, on seas by draws, each answer held against the model's. The draws are the same each time. */
final class ModelTest {
    private static final String[] WORDS = {"sea", "tides", "rock", "shore", "throws", "walks", "current", "wind",
        "keeps", "moon", "springs", "cork", "north", "east", "south", "west", "or", "and", "not", "x", "y", "tide",
        "from", "to", "finder", "age", "passed", "heavy", ";", ":", "+", "-", "*", "(", ")", "[", "]", "=", "<", ">",
        "0", "1", "2", "7", "999", "1000", "A", "!", "\t", "\u00e9", "\n", " "};

    private final Random random;
    private int wide;
    private int high;
    private int phases;
    private int length;

    private ModelTest(long seed) {
        random = new Random(seed);
    }

    public static void main(String[] args) {
        int runs = args.length > 0 ? Integer.parseInt(args[0]) : 400;
        long first = args.length > 1 ? Long.parseLong(args[1]) : 1;
        Kit kit = new Kit("ModelTest");
        for (long seed = first; seed < first + runs; seed++) {
            new ModelTest(seed).run(kit, seed);
        }
        kit.end();
    }

    private int upTo(int n) {
        return random.nextInt(n + 1);
    }

    private boolean chance(int of) {
        return random.nextInt(of) == 0;
    }

    private String sum(int depth, String[] words) {
        StringBuilder s = new StringBuilder(atom(depth, words));
        for (int i = upTo(2); i > 0; i--) {
            s.append(new String[] {" + ", "-", "*"}[upTo(2)]).append(atom(depth, words));
        }
        return s.toString();
    }

    private String atom(int depth, String[] words) {
        int kind = upTo(depth > 3 ? 5 : 6);
        if (kind == 6) {
            return "(" + sum(depth + 1, words) + ")";
        }
        return kind < 3 ? String.valueOf(chance(6) ? upTo(999) : upTo(5)) : words[upTo(words.length - 1)];
    }

    private String truth(int depth) {
        StringBuilder s = new StringBuilder(unit(depth));
        for (int i = upTo(3) - 1; i > 0; i--) {
            s.append(chance(2) ? " or " : " and ").append(unit(depth));
        }
        return s.toString();
    }

    private String unit(int depth) {
        String[] words = {"from", "to", "finder", "age", "passed", "heavy", "tide"};
        int kind = upTo(depth > 3 ? 3 : 5);
        if (kind == 5) {
            return "[" + truth(depth + 1) + "]";
        }
        if (kind == 4) {
            return "not " + unit(depth + 1);
        }
        return sum(depth, words) + new String[] {" = ", "<", " >"}[upTo(2)] + sum(depth, words);
    }

    private String place() {
        return upTo(wide - 1) + " " + upTo(high - 1);
    }

    private String line(boolean[] taken) {
        int k = upTo(wide * high - 1);
        switch (upTo(11)) {
            case 0:
                return taken[k] && !chance(20) ? "" : "rock " + mark(taken, k) + ";";
            case 3:
                return moonLine();
            case 4:
                return "cork " + (1 + upTo(chance(3) ? 98 : 12)) + ";";
            case 5:
                return "wind : " + sum(0, new String[] {"x", "y", "tide", "moon"}) + ";";
            case 6:
                return "keeps:" + truth(0) + ";";
            default:
                return currentLine(place());
        }
    }

    private String moonLine() {
        int moon = 2 + upTo(chance(4) ? 28 : 5);
        return "moon " + moon + " springs " + upTo(chance(3) ? moon : 2) + ";";
    }

    private String currentLine(String where) {
        StringBuilder s = new StringBuilder("current " + where);
        for (int i = 0; i < phases; i++) {
            s.append(" ").append(chance(2) ? upTo(4) : 1 + upTo(3));
        }
        return s + ";";
    }

    private String mark(boolean[] taken, int k) {
        taken[k] = true;
        return k % wide + " " + k / wide;
    }

    private String shoreLine(boolean[] taken) {
        int k = upTo(wide * high - 1);
        for (int i = 0; taken[k] && i < 9; i++) {
            k = upTo(wide * high - 1);
        }
        if (taken[k]) {
            return "";
        }
        int way = upTo(3);
        if (!chance(4)) {
            // Away from the nearest edge.
            way = k / wide == 0 ? 2 : k % wide == 0 ? 1 : k / wide == high - 1 ? 0 : 3;
        }
        StringBuilder s = new StringBuilder("shore " + mark(taken, k) + " throws ");
        s.append(new String[] {"north", "east", "south", "west"}[way]).append(" walks");
        for (int i = upTo(2); i >= 0; i--) {
            s.append(" ").append(upTo(phases - 1));
        }
        return s + ";";
    }

    private String seaText() {
        wide = 2 + upTo(chance(4) ? 4 : 2);
        high = 2 + upTo(chance(4) ? 4 : 2);
        phases = 1 + upTo(chance(4) ? 5 : 2);
        StringBuilder s = new StringBuilder("sea " + wide + " " + high + " tides " + phases + ";");
        boolean[] taken = new boolean[36];
        for (int i = chance(5) ? upTo(7) : 2 + upTo(3); i > 0; i--) {
            s.append(shoreLine(taken));
        }
        boolean dense = chance(2);
        for (int k = 0; dense && k < wide * high && s.length() < 700; k++) {
            if (!taken[k] && !chance(5)) {
                s.append(currentLine(k % wide + " " + k / wide));
            }
        }
        for (int i = upTo(dense ? 6 : 20); i > 0 && s.length() < 800; i--) {
            s.append(line(taken)).append(chance(3) ? "\n" : "");
        }
        if (chance(4)) {
            int p = upTo(s.length());
            int q = Math.min(s.length(), p + upTo(3));
            s.replace(p, q, chance(4) ? "" : WORDS[upTo(WORDS.length - 1)] + (chance(2) ? " " : ""));
        }
        return s.length() > 900 ? s.substring(0, 900) : s.toString();
    }

    private int tell(BottlePost x, Model m, Kit kit, String run) {
        byte[] text = Kit.bytes(seaText());
        length = text.length;
        for (int[] r : Kit.twenties(text)) {
            kit.due(run + "feed", x.feed(r[0], r[1], r[2], r[3], r[4]), m.feed(r[0], r[1], r[2], r[3], r[4]));
        }
        int n = chance(30) ? length + upTo(20) : chance(15) ? upTo(length) : length;
        int lines = m.sea(n);
        kit.due(run + "sea(" + n + ") of " + new String(text), x.sea(n), lines);
        kit.due(run + "fault(0)", x.fault(0), m.fault(0));
        kit.due(run + "fault(1) of " + new String(text), x.fault(1), m.fault(1));
        return lines;
    }

    private int around(int most) {
        return chance(20) ? most + 1 + upTo(1) : chance(20) ? -1 : upTo(Math.max(most, 0));
    }

    private long deed() {
        int kind = upTo(9);
        if (kind < 4) {
            return -1;
        }
        if (kind == 4) {
            return 1000 + upTo(8);
        }
        if (kind == 5 && chance(4)) {
            return random.nextLong();
        }
        return 100L * upTo(2) + 10L * (chance(3) ? 9 : upTo(3)) + (chance(9) ? 2 : upTo(1));
    }

    private void fill(BottlePost x, Model m, Kit kit, String run) {
        int tray = around(1);
        int sort = around(3);
        int n = chance(2) ? around(40) : 2 * upTo(5);
        boolean sight = chance(2);
        if (sight && !chance(5)) {
            n = 2 + 2 * upTo(chance(2) ? 0 : 3);
        }
        kit.due(run + "numbers(" + tray + "," + sort + "," + n + ")", x.numbers(tray, sort, n),
            m.numbers(tray, sort, n));
        for (int i = 0; i < n + 1; i++) {
            long v = !sight ? deed() : i % 2 == 0 ? around(wide * high - 1) : chance(40) ? 31 : upTo(chance(2) ? 2 : 9);
            kit.due(run + "write(" + tray + "," + i + "," + v + ")", x.write(tray, i, v), m.write(tray, i, v));
        }
    }

    private void run(Kit kit, long seed) {
        BottlePost x = new BottlePost();
        Model m = new Model();
        for (int i = 0; i < 80; i++) {
            String run = "run " + seed + "." + i + ": ";
            if (i == 3 || chance(60)) {
                for (int again = 0; again < 3 && tell(x, m, kit, run) < 0; again++) {
                    kit.due(run + "count(4)", x.count(4), m.count(4));
                }
            }
            if (chance(6)) {
                fill(x, m, kit, run);
            }
            call(x, m, kit, run, i > 4 && i < 8 ? 5 : upTo(46));
            for (int what = -1; what < 15; what++) {
                kit.due(run + "count(" + what + ")", x.count(what), m.count(what));
            }
        }
        if (m.count(3) > 2 && chance(m.count(3) < 6 ? 3 : 6)) {
            sweep(x, m, kit, "run " + seed + ": ");
        }
        for (int b = 0; b < 9; b++) {
            for (int what = -1; what < 9; what++) {
                kit.due("run " + seed + ": bottle(" + b + "," + what + ")", x.bottle(b, what), m.bottle(b, what));
                kit.due("run " + seed + ": shore(" + b + "," + what + ")", x.shore(b, what), m.shore(b, what));
            }
        }
    }

    /** All that can be asked of friends, for calls by draws seldom meet a relay of several letters. */
    private void sweep(BottlePost x, Model m, Kit kit, String run) {
        int shores = m.count(3);
        for (int s = 0; s < shores; s++) {
            for (int t = 0; t < shores; t++) {
                for (int what : new int[] {0, 1, 10, 11, 12, 13, 14, 15}) {
                    kit.due(run + "relay " + what, x.relay(s, t, what), m.relay(s, t, what));
                }
                for (int by = 0; by < shores; by++) {
                    kit.due(run + "without", x.without(s, t, by), m.without(s, t, by));
                }
            }
        }
    }

    private void call(BottlePost x, Model m, Kit kit, String run, int which) {
        int cells = Math.max(1, wide * high);
        int k = around(cells - 1);
        int j = around(cells - 1);
        int s = around(m.count(3) - 1);
        int t = around(m.count(3) - 1);
        int b = around(m.count(4) - 1);
        int w = around(30);
        int n = around(60);
        boolean h = chance(2);
        int tray = around(chance(9) ? 3 : 1);
        String with = run + "k " + k + " j " + j + " s " + s + " t " + t + " b " + b + " w " + w + " n " + n + " h " + h
            + " tray " + tray + " ";
        switch (which) {
            case 0 -> kit.due(with + "cell", x.cell(k), m.cell(k));
            case 1 -> kit.due(with + "shore", x.shore(s, w / 5), m.shore(s, w / 5));
            case 2 -> kit.due(with + "current", x.current(k, w / 5), m.current(k, w / 5));
            case 3 -> kit.due(with + "wind", x.wind(k, n * 17), m.wind(k, n * 17));
            case 4 -> kit.due(with + "fault", x.fault(w / 9), m.fault(w / 9));
            case 5, 6, 7, 8, 9, 10 -> kit.due(with + "throwsIt", x.throwsIt(s, t, h), m.throwsIt(s, t, h));
            case 11, 12, 13 -> kit.due(with + "tides", x.tides(w / 5), m.tides(w / 5));
            case 14 -> kit.due(with + "tides", x.tides(n * 2), m.tides(n * 2));
            case 15 -> kit.due(with + "storm", x.storm(k, j), m.storm(k, j));
            case 16 -> kit.due(with + "lift", x.lift(b), m.lift(b));
            case 17 -> kit.due(with + "undo", x.undo(w / 4), m.undo(w / 4));
            case 18 -> {
                for (int what = -1; what < 5; what++) {
                    kit.due(with + "judge " + what, x.judge(tray, what), m.judge(tray, what));
                }
            }
            case 19 -> kit.due(with + "perform", x.perform(tray), m.perform(tray));
            case 20 -> kit.due(with + "season", x.season(j * 7919 - k, w), m.season(j * 7919 - k, w));
            case 21, 22 -> {
                for (int what = -1; what < 4; what++) {
                    kit.due(with + "fate " + what, x.fate(b, what), m.fate(b, what));
                }
            }
            case 23 -> kit.due(with + "whereIn", x.whereIn(b, w * 7), m.whereIn(b, w * 7));
            case 24 -> kit.due(with + "comesTo", x.comesTo(b, k), m.comesTo(b, k));
            case 25 -> kit.due(with + "keeper", x.keeper(s, t, h, w), m.keeper(s, t, h, w));
            case 26 -> kit.due(with + "reaches", x.reaches(s, t, h, w), m.reaches(s, t, h, w));
            case 27 -> {
                for (int what = -1; what < 4; what++) {
                    kit.due(with + "best " + what, x.best(s, t, what), m.best(s, t, what));
                }
            }
            case 28 -> kit.due(with + "reachers", x.reachers(s), m.reachers(s));
            case 29 -> {
                for (int what : new int[] {0, 1, 10, 11, 12, 13, 9, 16}) {
                    kit.due(with + "relay " + what, x.relay(s, t, what), m.relay(s, t, what));
                }
            }
            case 30 -> kit.due(with + "keepers", x.keepers(w), m.keepers(w));
            case 31 -> kit.due(with + "without", x.without(s, t, n % 6), m.without(s, t, n % 6));
            case 32 -> kit.due(with + "catches", x.catches(k, n), m.catches(k, n));
            case 33 -> {
                for (int what = -1; what < 3; what++) {
                    kit.due(with + "net " + what, x.net(n, what), m.net(n, what));
                }
            }
            case 34 -> kit.due(with + "calm", x.calm(n), m.calm(n));
            case 35 -> kit.due(with + "deadly", x.deadly(h), m.deadly(h));
            case 36 -> kit.due(with + "eddy", x.eddy(k, h), m.eddy(k, h));
            case 37, 38 -> kit.due(with + "seen", x.seen(tray), m.seen(tray));
            case 39, 40 -> {
                for (int what = -1; what < 5; what++) {
                    kit.due(with + "thrower " + what, x.thrower(tray, b, what), m.thrower(tray, b, what));
                }
            }
            case 41 -> kit.due(with + "suspects", x.suspects(tray), m.suspects(tray));
            case 42 -> {
                kit.due(with + "lists", x.lists(tray, b), m.lists(tray, b));
                kit.due(with + "seen", x.seen(tray), m.seen(tray));
            }
            case 43, 44 -> kit.due(with + "image", x.image(w / 14), m.image(w / 14));
            case 45 -> kit.due(with + "restore", x.restore(w / 14), m.restore(w / 14));
            default -> kit.due(with + "wind", x.wind(k, n), m.wind(k, n));
        }
    }
}
