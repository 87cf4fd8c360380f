/** The document's plain sentences, which name no edge: what each says, worked out by hand. */
final class PlainTest {
    private static final Kit KIT = new Kit("PlainTest");
    private static final String SMALL = "sea 2 2 tides 1;";
    /** What shore 0 throws comes to shore 1 in a tide, where it is found. */
    private static final String FOUND = "sea 3 2 tides 1;shore 0 0 throws east walks 0;shore 2 0 throws west walks 0;"
        + "shore 0 1 throws east walks 0;current 1 0 2;keeps : ";
    private static final String YES = "1 = 1";
    private static final String NO = "1 = 2";

    public static void main(String[] args) {
        linesOfTheSea();
        ways();
        truths();
        whereCurrentsAre();
        shoresAreTold();
        thrown();
        sixStates();
        bottlesAreTold();
        byCurrentThenByWind();
        nothingElseBeingDone();
        fatesKeepers();
        reachesByWait();
        bestOfAll();
        unlikeShores();
        orderOfThrows();
        eddies();
        KIT.end();
    }

    private static void fault(String text, int kind, int place) {
        BottlePost x = new BottlePost();
        KIT.due("sea of " + text, Kit.told(x, text), -30 - kind);
        KIT.due("its fault's place: " + text, x.fault(1), place);
    }

    private static void linesOfTheSea() {
        KIT.says(0, "LINE: rock N N | shore N N throws DIR walks N { N } | current N N N { N } | wind : SUM | keeps : TRUTH "
            + "| moon N springs N | cork N.");
        String[] lines = {"rock 0 1 ;", "shore 0 1 throws east walks 0 ;", "current 0 1 1 ;", "wind : 1 ;",
            "keeps : 1 = 1 ;", "moon 2 springs 1 ;", "cork 9 ;"};
        for (String line : lines) {
            KIT.due("lines with " + line, Kit.told(new BottlePost(), SMALL + line), 2);
            String[] tokens = line.split(" ");
            for (int i = 0; i < tokens.length; i++) {
                fault(SMALL + joined(tokens, 0, i) + joined(tokens, i + 1, tokens.length), 2, missed(tokens, i));
                fault(SMALL + joined(tokens, 0, i + 1) + "rock " + joined(tokens, i + 1, tokens.length), 2,
                    onceMore(tokens, i));
            }
        }
    }

    private static String joined(String[] tokens, int from, int behind) {
        StringBuilder s = new StringBuilder();
        for (int i = from; i < behind; i++) {
            s.append(tokens[i]).append(' ');
        }
        return s.toString();
    }

    /** Without one of its tokens a line is at fault in the next one; of Ns in a row the last is the one that lacks. */
    private static int missed(String[] tokens, int i) {
        int next = i + 1;
        while (tokens[i].matches("\\d") && next < tokens.length && tokens[next].matches("\\d")) {
            next++;
        }
        return SMALL.length() + joined(tokens, 0, next).length() - tokens[i].length() - 1;
    }

    /** A word too many is at fault itself; behind the line's end it opens one that ends with the text. */
    private static int onceMore(String[] tokens, int i) {
        int place = SMALL.length() + joined(tokens, 0, i + 1).length();
        return i == tokens.length - 1 ? place + "rock ".length() : place;
    }

    private static void ways() {
        KIT.says(0, "DIR: north | east | south | west.");
        String[] dirs = {"north", "east", "south", "west"};
        int[] onto = {1, 5, 7, 3};
        for (int i = 0; i < 4; i++) {
            BottlePost x = Kit.sea("sea 3 3 tides 1;shore 1 1 throws " + dirs[i] + " walks 0;");
            KIT.due("the way it throws, " + dirs[i], x.shore(0, 1), i + 1);
            KIT.due("the cell it throws to, " + dirs[i], x.shore(0, 3), onto[i]);
            x.throwsIt(0, -1, true);
            KIT.due("where it comes to, " + dirs[i], x.bottle(0, 1), onto[i]);
        }
        fault("sea 3 3 tides 1;shore 1 1 throws norths walks 0;", 2, 33);
        fault("sea 3 3 tides 1;shore 1 1 throws nort walks 0;", 2, 33);
        fault("sea 3 3 tides 1;shore 1 1 throws 1 walks 0;", 2, 33);
    }

    private static boolean holds(String truth) {
        BottlePost x = Kit.sea(FOUND + truth + ";");
        x.throwsIt(0, 2, true);
        return x.tides(1) == 1;
    }

    private static void truth(String text, boolean due) {
        KIT.due("whether keeps holds: " + text, holds(text) ? 1 : 0, due ? 1 : 0);
    }

    private static void truths() {
        KIT.says(0, "TRUTH: BOTH { or BOTH }; BOTH: UNIT { and UNIT }; UNIT: not UNIT, [ TRUTH ], or SUM, one of = < >, SUM.");
        for (int i = 0; i < 8; i++) {
            boolean p = (i & 1) != 0;
            boolean q = (i & 2) != 0;
            boolean r = (i & 4) != 0;
            String a = p ? YES : NO;
            String b = q ? YES : NO;
            String c = r ? YES : NO;
            truth(a, p);
            truth("not " + a, !p);
            truth(a + " or " + b + " or " + c, p || q || r);
            truth(a + " and " + b + " and " + c, p && q && r);
            truth(a + " or " + b + " and " + c, p || q && r);
            truth(a + " and " + b + " or " + c, p && q || r);
            truth("[" + a + " or " + b + "] and " + c, (p || q) && r);
            truth(a + " and [" + b + " or " + c + "]", p && (q || r));
            truth("not " + a + " or " + b + " and " + c, !p || q && r);
            truth("not [" + a + " or " + b + "] and not " + c, !(p || q) && !r);
            truth("not not " + a + " and " + b, p && q);
        }
    }

    private static void whereCurrentsAre() {
        KIT.says(0, "current: x, y, for each PHASE a direction");
        BottlePost x = Kit.sea("sea 3 2 tides 3;current 2 1 4 0 3;current 0 0 1 2 3;");
        int[][] due = {{1, 2, 3}, {0, 0, 0}, {0, 0, 0}, {0, 0, 0}, {0, 0, 0}, {4, 0, 3}};
        for (int k = 0; k < 6; k++) {
            for (int phase = 0; phase < 3; phase++) {
                KIT.due("current(" + k + ", " + phase + ")", x.current(k, phase), due[k][phase]);
            }
        }
    }

    private static void shoresAreTold() {
        KIT.says(6, "Of a SHORE, what 0: its CELL, 1: the direction it throws (1 to 4), 2: PHASES at which people walk, as bits");
        BottlePost x = Kit.sea("sea 4 3 tides 4;shore 3 2 throws north walks 0;shore 1 0 throws west walks 1 3;"
            + "shore 0 2 throws east walks 2 2;shore 2 1 throws south walks 3 2 1 0;");
        int[][] due = {{11, 1, 1, 7}, {1, 4, 10, 0}, {8, 2, 4, 9}, {6, 3, 15, 10}};
        for (int s = 0; s < 4; s++) {
            for (int what = 0; what < 4; what++) {
                KIT.due("shore(" + s + ", " + what + ")", x.shore(s, what), due[s][what]);
            }
        }
    }

    private static void thrown() {
        KIT.says(0, "A BOTTLE is thrown by a SHORE (from), to a SHORE, or to whom it may (NONE), light or heavy: "
            + "it comes to the CELL beside that way (open sea).");
        int[] onto = {1, 4, 1};
        for (int from = 0; from < 3; from++) {
            for (int to = -1; to < 3; to++) {
                for (int heavy = 0; heavy < 2 && to != from; heavy++) {
                    BottlePost x = Kit.sea("sea 3 2 tides 1;shore 0 0 throws east walks 0;"
                        + "shore 2 1 throws west walks 0;shore 2 0 throws west walks 0;");
                    KIT.due("throwsIt", x.throwsIt(from, to, heavy == 1), 0);
                    int[] due = {0, onto[from], from, to, heavy, 0, 0, -1};
                    for (int what = 0; what < 8; what++) {
                        KIT.due(from + " to " + to + ": bottle(0, " + what + ")", x.bottle(0, what), due[what]);
                    }
                }
            }
        }
    }

    /** In tide 2 bottle 0 sinks, 1 breaks, 2 lies, 3 is kept; 4 was lifted; 5 stays at sea. */
    private static BottlePost sixEnds() {
        BottlePost x = Kit.sea("sea 4 3 tides 2;shore 0 0 throws south walks 0;shore 1 0 throws south walks 0;"
            + "shore 2 0 throws south walks 0;shore 3 0 throws south walks 0;shore 2 2 throws north walks 1;"
            + "shore 3 2 throws north walks 0;rock 1 2;current 1 1 3 3;current 2 1 3 3;current 3 1 3 3;cork 3;");
        x.throwsIt(0, 1, true);
        x.tides(2);
        for (int from = 1; from < 4; from++) {
            x.throwsIt(from, from == 3 ? 5 : 0, from == 2);
        }
        x.throwsIt(0, -1, false);
        x.throwsIt(0, 4, true);
        x.lift(4);
        KIT.due("kept in tide 2", x.tides(1), 1);
        return x;
    }

    private static void sixStates() {
        KIT.says(0, "It is AT SEA (on a CELL), LIES at a SHORE, is KEPT (by a SHORE), BROKEN, SUNK, LIFTED");
        BottlePost x = sixEnds();
        int[] states = {4, 3, 1, 2, 5, 0};
        for (int b = 0; b < 6; b++) {
            KIT.due("where bottle " + b + " is", x.whereIn(b, 0), b == 2 ? 10 : b == 5 ? 4 : -1);
            KIT.due("by whom bottle " + b + " is kept", x.bottle(b, 7), b == 3 ? 5 : -1);
        }
        for (int s = 0; s < 6; s++) {
            KIT.due("what lies at " + s, x.shore(s, 4), s == 4 ? 4 : 0);
            KIT.due("what is kept by " + s, x.shore(s, 5), s == 5 ? 8 : 0);
        }
        KIT.due("at sea", x.count(5), 1);
        KIT.due("kept", x.count(6), 1);
        KIT.says(9, "Of a BOTTLE, what 0: 0 AT SEA, 1 it LIES, 2 KEPT, 3 BROKEN, 4 SUNK, 5 LIFTED");
        for (int b = 0; b < 6; b++) {
            KIT.due("what bottle " + b + " is", x.bottle(b, 0), states[b]);
        }
    }

    private static void bottlesAreTold() {
        KIT.says(9, "2: from, 3: to (NONE), 4: 1 if heavy, else 0, 5: AGE, 6: PASSED, 7: by whom it is KEPT (NONE).");
        BottlePost x = sixEnds();
        int[][] due = {{0, 1, 1, 3, 0, -1}, {1, 0, 0, 0, 0, -1}, {2, 0, 1, 1, 0, -1}, {3, 5, 0, 1, 0, 5},
            {0, -1, 0, 0, 0, -1}, {0, 4, 1, 1, 0, -1}};
        for (int b = 0; b < 6; b++) {
            for (int what = 2; what < 8; what++) {
                KIT.due("bottle(" + b + ", " + what + ")", x.bottle(b, what), due[b][what - 2]);
            }
        }
        // At phase 1 shore 4 finds what isn't its own, and passes it on.
        x.tides(1);
        KIT.due("how often 2 was passed on", x.bottle(2, 6), 1);
        KIT.due("where 2 is then", x.bottle(2, 1), 6);
        KIT.due("its age", x.bottle(2, 5), 2);
    }

    private static void byCurrentThenByWind() {
        KIT.says(0, "each BOTTLE AT SEA goes by the current of its CELL and this PHASE (at springs again, by that of where it "
            + "is then), then, if it is light, by the wind of where it is then:");
        // From 1 1: by the current east, at springs from there north; the wind is south at x 2, else none.
        String sea = "sea 4 4 tides 2;shore 0 1 throws east walks 0;current 1 1 2 3;current 2 1 1 0;current 1 2 4 2;"
            + "wind : (x - 1) * (3 - x) * 3;";
        int[][][] due = {{{10, 9}, {6, 9}}, {{6, 14}, {2, 10}}};
        for (int springs = 0; springs < 2; springs++) {
            for (int heavy = 0; heavy < 2; heavy++) {
                for (int late = 0; late < 2; late++) {
                    BottlePost x = Kit.sea(sea + "moon 2 springs " + springs * 2 + ";");
                    if (late == 1) {
                        x.tides(1);
                    }
                    x.throwsIt(0, -1, heavy == 1);
                    x.tides(1);
                    KIT.due("springs " + springs + ", heavy " + heavy + ", phase " + late + ": where it is", x.bottle(0, 1),
                        due[springs][heavy][late]);
                }
            }
        }
    }

    private static void nothingElseBeingDone() {
        KIT.says(0, "Nothing else being done: FATE of a BOTTLE within 200 TIDES from now.");
        String sea = "sea 4 2 tides 1;shore 0 0 throws east walks 0;shore 3 0 throws south walks 0;current 1 0 2;"
            + "current 2 0 2;cork 9;";
        BottlePost x = Kit.sea(sea);
        x.throwsIt(0, -1, true);
        KIT.due("what it will be", x.fate(0, 0), 2);
        KIT.due("in how many tides", x.fate(0, 1), 2);
        // Asked or not, it is where it was, and something else that is done tells another fate.
        KIT.due("what it is now", x.bottle(0, 0), 0);
        KIT.due("where it is now", x.bottle(0, 1), 1);
        x.storm(1, 4);
        KIT.due("what it will be behind a storm", x.fate(0, 0), 4);
        KIT.due("in how many tides behind a storm", x.fate(0, 1), 9);
        x.lift(0);
        KIT.due("what it will be once lifted", x.fate(0, 0), 5);
        KIT.due("in how many tides once lifted", x.fate(0, 1), 0);
    }

    private static void fatesKeepers() {
        KIT.says(18, "2: by whom it is KEPT (NONE).");
        BottlePost x = Kit.sea("sea 5 2 tides 1;shore 0 0 throws east walks 0;shore 2 0 throws east walks 0;"
            + "shore 4 0 throws south walks 0;current 1 0 2;current 3 0 2;keeps : to = 0;");
        x.throwsIt(0, -1, true);
        x.throwsIt(0, 1, true);
        x.throwsIt(0, 2, true);
        x.throwsIt(1, 0, true);
        x.throwsIt(2, 0, true);
        int[] due = {1, 1, 2, 2, -1};
        int[] tides = {1, 1, 2, 1, -1};
        for (int b = 0; b < 5; b++) {
            KIT.due("fate(" + b + ", 2)", x.fate(b, 2), due[b]);
            KIT.due("fate(" + b + ", 1)", x.fate(b, 1), tides[b]);
        }
    }

    /** The current goes at phases 0 and 2 alone, and nobody walks at 1: what comes in tide 1 is found in tide 2. */
    private static BottlePost threePhases() {
        return Kit.sea("sea 4 2 tides 3;shore 0 0 throws east walks 0;shore 3 0 throws west walks 0 2;"
            + "current 1 0 2 0 2;current 2 0 0 2 2;");
    }

    private static void reachesByWait() {
        KIT.says(22, "In how many TIDES from now that THROW REACHES the SHORE it is to.");
        // Thrown at phase 0 it goes at 0 and 1; at 1, at 2 and the next 1; at 2, at 2 and the next 1.
        int[] behind = {3, 5, 4};
        for (int now = 0; now < 4; now++) {
            BottlePost x = threePhases();
            if (now > 0) {
                x.tides(now);
            }
            for (int w = 0; w <= 30; w++) {
                KIT.due("reaches(0, 1, true, " + w + ") in tide " + now, x.reaches(0, 1, true, w), w + behind[(now + w) % 3]);
            }
        }
    }

    private static void bestOfAll() {
        KIT.says(23, "BEST, what 0: in how many TIDES from now, 1: w, 2: 1 if heavy, else 0.");
        int[][] due = {{3, 0, 0}, {5, 0, 0}, {4, 0, 0}};
        for (int now = 0; now < 3; now++) {
            BottlePost x = threePhases();
            if (now > 0) {
                x.tides(now);
            }
            best(x, due[now]);
        }
        // The wind at phase 0 drives light ones back, so that only heavy ones come.
        BottlePost x = Kit.sea("sea 4 2 tides 1;shore 0 0 throws east walks 0;shore 3 0 throws west walks 0;"
            + "current 1 0 2;current 2 0 2;wind : 4;");
        best(x, new int[] {2, 0, 1});
        // Here what is thrown now is broken: one must wait for a tide.
        x = Kit.sea("sea 4 2 tides 2;shore 0 0 throws east walks 0 1;shore 3 0 throws west walks 0 1;rock 1 1;"
            + "current 1 0 3 2;current 2 0 2 2;");
        best(x, new int[] {3, 1, 0});
    }

    private static void best(BottlePost x, int[] due) {
        for (int what = 0; what < 3; what++) {
            KIT.due("best(0, 1, " + what + ")", x.best(0, 1, what), due[what]);
        }
    }

    private static void unlikeShores() {
        KIT.says(0, "RELAY: letters one behind the other by unlike SHORES,");
        // 1 keeps all that 0 throws, so that 2 is reached by a letter of 1's alone; 3 is never reached.
        BottlePost x = Kit.sea("sea 6 3 tides 1;shore 0 0 throws east walks 0;shore 2 0 throws south walks 0;"
            + "shore 4 1 throws south walks 0;shore 5 0 throws south walks 0;current 1 0 2;current 2 1 2;current 3 1 2;"
            + "keeps : 1 = 1;");
        int[] due = {3, 2, 0, 1, 2, -1, -1, -1};
        int[] whats = {0, 1, 10, 11, 12, 13, 14, 15};
        for (int i = 0; i < whats.length; i++) {
            KIT.due("relay(0, 2, " + whats[i] + ")", x.relay(0, 2, whats[i]), due[i]);
            KIT.due("relay(0, 3, " + whats[i] + ")", x.relay(0, 3, whats[i]), -1);
        }
    }

    private static void orderOfThrows() {
        KIT.says(0, "THROWS by from, to (NONE first, then by numbers), light or heavy, t TIDES ago");
        // Both 0 and 2 throw to cell 1, where nothing moves.
        BottlePost x = Kit.sea("sea 3 2 tides 1;shore 0 0 throws east walks 0;shore 2 1 throws west walks 0;"
            + "shore 2 0 throws west walks 0;");
        x.tides(2);
        KIT.says(0, "SEEN in a TRAY (1 to 4 twos of numbers: a CELL, how many TIDES ago, 0 to 30): THROWS by from, to");
        Kit.tray(x, 0, 1, 1, 0);
        KIT.due("seen", x.seen(0), 2 * 3 * 2 * 3);
        KIT.due("suspects", x.suspects(0), 5);
        int k = 0;
        for (int from = 0; from < 3; from += 2) {
            for (int to = -1; to < 3; to++) {
                for (int one = 0; one < 6 && to != from; one++, k++) {
                    int[] due = {from, to, one / 3, one % 3};
                    for (int what = 0; what < 4; what++) {
                        KIT.due("thrower(0, " + k + ", " + what + ")", x.thrower(0, k, what), due[what]);
                    }
                }
            }
        }
        // Who saw it a tide ago, too, knows that it wasn't thrown just now.
        Kit.tray(x, 0, 1, 1, 0, 1, 1);
        KIT.due("seen twice", x.seen(0), 2 * 3 * 2 * 2);
        Kit.tray(x, 0, 1, 1, 0, 4, 1);
        KIT.due("seen on two cells", x.seen(0), 0);
        Kit.tray(x, 0, 1, 4, 2);
        KIT.due("seen two tides ago", x.seen(0), 3 * 2);
        KIT.due("suspects two tides ago", x.suspects(0), 2);
    }

    private static void eddies() {
        KIT.says(32, "Whether a BOTTLE so heavy from a CELL of open sea would come back to it");
        // Round four cells by currents; light ones are blown west, which holds those in the west where they are.
        BottlePost x = Kit.sea("sea 3 2 tides 1;shore 2 0 throws south walks 0;current 0 0 2;current 1 0 3;current 1 1 4;"
            + "current 0 1 1;wind : 4;cork 1;");
        KIT.each("eddy of a heavy one", 4, k -> x.eddy(k, true), 0, 1, 3, 4);
        KIT.due("eddy of one that stays", x.eddy(5, true), 1);
        // A light one from 0: east to 1, back to 0.
        KIT.due("eddy(0, false)", x.eddy(0, false), 1);
        // From 1: south to 4, west to 3; from 3: north to 0, and there it stays.
        KIT.each("eddy of a light one", -1, k -> x.eddy(k, false), 1, 3, 4, 5);
    }
}
