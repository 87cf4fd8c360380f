/** Boundary cases of what is to come, promises 18 to 27, each under the sentence that names it. */
final class ToComeBoundsTest {
    private static final Kit KIT = new Kit("ToComeBoundsTest");
    private static final String ALWAYS = " walks 0 1 2 3 4 5;";
    /** Light ones go from cell 1 to 2 and to 3 when the wind wafts; 3 is what the line behind tells. */
    private static final String LATE = "sea 4 2 tides 6;shore 0 0 throws east" + ALWAYS;
    private static final String GOAL = "shore 3 0 throws south" + ALWAYS;
    /** Six shores down the diagonal: what one throws comes to the next in a tide; the last throws over the edge. */
    private static final String STAIRS = "sea 6 6 tides 1;shore 0 0 throws east walks 0;shore 1 1 throws east walks 0;"
        + "shore 2 2 throws east walks 0;shore 3 3 throws east walks 0;shore 4 4 throws east walks 0;"
        + "shore 5 5 throws east walks 0;current 1 0 3;current 2 1 3;current 3 2 3;current 4 3 3;current 5 4 3;";
    /** In two tides what 0 throws is broken, 1 keeps its own, 2's sinks. */
    private static final String ENDS = "sea 6 3 tides 1;shore 0 0 throws south walks 0;shore 1 0 throws south walks 0;"
        + "shore 2 0 throws south walks 0;rock 0 2;current 0 1 3;current 1 1 1;cork 2;";

    public static void main(String[] args) {
        fateWithin();
        fateOfRocksAndShores();
        fateSettled();
        noSuchFate();
        whereIn();
        whereRefused();
        comesTo();
        comesToRefused();
        throwsWithin();
        lastWait();
        keeperRefused();
        reachesRefused();
        bestOfLike();
        bestRefused();
        reachers();
        relays();
        relaysWait();
        relayRefused();
        keepers();
        without();
        withoutRefused();
        KIT.covers(18, 27);
        KIT.end();
    }

    private static void fate(BottlePost x, int b, int... due) {
        for (int what = 0; what < 3; what++) {
            KIT.due("fate(" + b + ", " + what + ")", x.fate(b, what), due[what]);
        }
    }

    private static BottlePost thrown(String sea) {
        BottlePost x = Kit.sea(sea);
        x.throwsIt(0, -1, false);
        return x;
    }

    private static void fateWithin() {
        KIT.says(0, "FATE of a BOTTLE within 200 TIDES from now.");
        BottlePost x = thrown(LATE + GOAL + Kit.wafts(100, 198));
        fate(x, 0, 2, 199, 1);
        x = thrown(LATE + GOAL + Kit.wafts(100, 199));
        fate(x, 0, 2, 200, 1);
        x = thrown(LATE + GOAL + Kit.wafts(100, 200));
        fate(x, 0, 0, -1, -1);
        x.tides(1);
        fate(x, 0, 2, 200, 1);
        // As it is told, so it comes.
        x.tides(99);
        x.tides(99);
        KIT.due("bottle(0, 0)", x.bottle(0, 0), 0);
        fate(x, 0, 2, 2, 1);
        KIT.due("tides(1)", x.tides(1), 0);
        KIT.due("tides(1)", x.tides(1), 1);
        KIT.due("its age", x.bottle(0, 5), 201);
    }

    private static void fateOfRocksAndShores() {
        KIT.says(18, "1: in how many TIDES it is so first (NONE: it is AT SEA, or LIES, still)");
        fate(thrown(LATE + "rock 3 0;" + Kit.wafts(100, 199)), 0, 3, 200, -1);
        fate(thrown(LATE + "rock 3 0;" + Kit.wafts(100, 200)), 0, 0, -1, -1);
        // It comes there in tide 199, and is found at phase 1 then, or lies beyond the 200th.
        fate(thrown(LATE + "shore 3 0 throws south walks 1;" + Kit.wafts(100, 199)), 0, 2, 200, 1);
        fate(thrown(LATE + "shore 3 0 throws south walks 2;" + Kit.wafts(100, 199)), 0, 1, -1, -1);
        fate(thrown(LATE + "shore 3 0 throws south walks 2;" + Kit.wafts(100, 198)), 0, 1, -1, -1);
        fate(thrown(LATE + "shore 3 0 throws south walks 1;" + Kit.wafts(100, 198)), 0, 2, 200, 1);
    }

    private static void fateSettled() {
        KIT.says(18, "FATE, what 0: what it is then (as bottle() tells)");
        BottlePost x = Kit.sea(ENDS);
        for (int b = 0; b < 4; b++) {
            x.throwsIt(b % 3, -1, true);
        }
        fate(x, 0, 3, 1, -1);
        fate(x, 1, 2, 1, 1);
        fate(x, 2, 4, 2, -1);
        x.lift(3);
        fate(x, 3, 5, 0, -1);
        x.tides(2);
        fate(x, 0, 3, 0, -1);
        fate(x, 1, 2, 0, 1);
        fate(x, 2, 4, 0, -1);
        x.tides(99);
        fate(x, 0, 3, 0, -1);
        fate(x, 3, 5, 0, -1);
    }

    private static void noSuchFate() {
        KIT.says(18, "-8: no such BOTTLE, what.");
        BottlePost x = Kit.sea(ENDS);
        KIT.each("fate of none", -8, b -> x.fate(b, 0), Kit.LEAST, -1, 0, 7, 8, Kit.MOST);
        x.throwsIt(0, -1, true);
        KIT.each("fate of one", -8, b -> x.fate(b, 0), Kit.LEAST, -1, 1, 7, 8, Kit.MOST);
        KIT.each("fate of no what", -8, what -> x.fate(0, what), Kit.LEAST, -1, 3, Kit.MOST);
    }

    private static void whereIn() {
        KIT.says(19, "The CELL on which a BOTTLE is in n TIDES (0 to 200), AT SEA or lying. NONE: it is neither");
        int[] when = {0, 1, 100, 101, 199, 200};
        int[][] due = {{1, 1, 1, 2, 2, -1}, {1, 1, 1, 2, 2, 3}, {1, 1, 1, 2, 2, 2}, {1, 1, 1, 2, 2, -1}};
        String[] goals = {GOAL + Kit.wafts(100, 199), "shore 3 0 throws south walks 0;" + Kit.wafts(100, 199),
            GOAL + Kit.wafts(100, 200), "rock 3 0;" + Kit.wafts(100, 199)};
        for (int i = 0; i < goals.length; i++) {
            BottlePost x = thrown(LATE + goals[i]);
            for (int j = 0; j < when.length; j++) {
                KIT.due("whereIn(0, " + when[j] + ") of " + i, x.whereIn(0, when[j]), due[i][j]);
            }
        }
        // Broken, kept, sunk, lifted: neither, from the first on.
        BottlePost x = Kit.sea(ENDS);
        for (int b = 0; b < 4; b++) {
            x.throwsIt(b % 3, -1, true);
        }
        x.lift(3);
        int[][] ends = {{6, -1, -1}, {7, -1, -1}, {8, 8, -1}, {-1, -1, -1}};
        for (int b = 0; b < 4; b++) {
            for (int n = 0; n < 3; n++) {
                KIT.due("whereIn(" + b + ", " + n + ")", x.whereIn(b, n), ends[b][n]);
            }
        }
        x.tides(2);
        KIT.each("whereIn of those", -1, b -> x.whereIn(b, 0), 0, 1, 2, 3);
    }

    private static void whereRefused() {
        KIT.says(19, "-2: the BOTTLE; -3.");
        BottlePost x = Kit.sea(ENDS);
        KIT.each("whereIn of none, too far", -2, b -> x.whereIn(b, 201), Kit.LEAST, -1, 0, 8, Kit.MOST);
        x.throwsIt(2, -1, true);
        KIT.each("whereIn of one", -2, b -> x.whereIn(b, 0), Kit.LEAST, -1, 1, 8, Kit.MOST);
        KIT.each("whereIn too far", -3, n -> x.whereIn(0, n), Kit.LEAST, -1, 201, Kit.MOST);
        // Ahead of NONE.
        x.lift(0);
        KIT.due("whereIn(0, 200)", x.whereIn(0, 200), -1);
        KIT.each("whereIn too far", -3, n -> x.whereIn(0, n), -1, 201);
    }

    private static void comesTo() {
        KIT.says(20, "In how many TIDES (0 to 200) a BOTTLE is on a CELL first, AT SEA or lying. NONE: not by then");
        String late = LATE + "shore 3 0 throws south walks 3;";
        int[][] due = {{-1, 0, 101, 199, -1, -1, -1, -1}, {-1, 0, 101, 200, -1, -1, -1, -1},
            {-1, 0, 101, -1, -1, -1, -1, -1}};
        for (int i = 0; i < 3; i++) {
            BottlePost x = thrown(late + Kit.wafts(100, 198 + i));
            for (int k = 0; k < 8; k++) {
                KIT.due("comesTo(0, " + k + ") of " + i, x.comesTo(0, k), due[i][k]);
            }
        }
        // Found at once, or broken, it isn't on that cell.
        KIT.due("found", thrown(LATE + GOAL + Kit.wafts(10, 20)).comesTo(0, 3), -1);
        KIT.due("broken", thrown(LATE + "rock 3 0;" + Kit.wafts(10, 20)).comesTo(0, 3), -1);
        BottlePost x = thrown(LATE + GOAL + Kit.wafts(10, 20));
        x.lift(0);
        KIT.each("comesTo, lifted", -1, k -> x.comesTo(0, k), 0, 1, 2, 3);
    }

    private static void comesToRefused() {
        KIT.says(20, "-2: one of both.");
        BottlePost x = Kit.sea(ENDS);
        KIT.each("comesTo of none", -2, b -> x.comesTo(b, 0), Kit.LEAST, -1, 0, 8, Kit.MOST);
        x.throwsIt(2, -1, true);
        KIT.each("comesTo of one", -2, b -> x.comesTo(b, 0), Kit.LEAST, -1, 1, 8, Kit.MOST);
        KIT.each("comesTo no cell", -2, k -> x.comesTo(0, k), Kit.LEAST, -1, 18, 35, Kit.MOST);
        KIT.due("comesTo(0, 17)", x.comesTo(0, 17), -1);
    }

    private static void throwsWithin() {
        KIT.says(0, "REACHES a SHORE it is to, if it is KEPT by that within 200 TIDES behind the throw: TIDES from now.");
        BottlePost x = Kit.sea(LATE + GOAL + Kit.wafts(100, 199));
        KIT.due("keeper, 200 behind", x.keeper(0, 1, false, 0), 1);
        KIT.due("keeper, 200 behind, to whom it may", x.keeper(0, -1, false, 0), 1);
        KIT.due("reaches, 200 behind", x.reaches(0, 1, false, 0), 200);
        KIT.due("a heavy one", x.reaches(0, 1, true, 0), -1);
        KIT.due("keeper of a heavy one", x.keeper(0, -1, true, 0), -1);
        x = Kit.sea(LATE + GOAL + Kit.wafts(100, 200));
        KIT.due("keeper, 201 behind", x.keeper(0, 1, false, 0), -1);
        KIT.due("keeper, 201 behind, to whom it may", x.keeper(0, -1, false, 0), -1);
        KIT.due("reaches, 201 behind", x.reaches(0, 1, false, 0), -1);
        KIT.due("keepers, 201 behind", x.keepers(0), 0);
        KIT.due("reaches, 200 behind a wait", x.reaches(0, 1, false, 1), 201);
        KIT.due("keepers, 200 behind a wait", x.keepers(1), 2);
        KIT.due("best(0, 1, 0)", x.best(0, 1, 0), 201);
        KIT.due("best(0, 1, 1)", x.best(0, 1, 1), 1);
        x.tides(1);
        KIT.due("reaches, 200 behind", x.reaches(0, 1, false, 0), 200);
    }

    private static void lastWait() {
        KIT.says(0, "A THROW in w TIDES (0 to 30), light or heavy");
        BottlePost x = Kit.sea(LATE + GOAL + Kit.wafts(100, 229));
        KIT.due("keeper in 29", x.keeper(0, 1, false, 29), -1);
        KIT.due("keeper in 30", x.keeper(0, 1, false, 30), 1);
        KIT.due("reaches in 29", x.reaches(0, 1, false, 29), -1);
        KIT.due("reaches in 30", x.reaches(0, 1, false, 30), 230);
        KIT.due("best(0, 1, 0)", x.best(0, 1, 0), 230);
        KIT.due("best(0, 1, 1)", x.best(0, 1, 1), 30);
        KIT.due("best(0, 1, 2)", x.best(0, 1, 2), 0);
        KIT.due("reachers(1)", x.reachers(1), 1);
        KIT.due("relay(0, 1, 0)", x.relay(0, 1, 0), 230);
        KIT.due("keepers(29)", x.keepers(29), 0);
        KIT.due("keepers(30)", x.keepers(30), 2);
        BottlePost y = Kit.sea(LATE + GOAL + Kit.wafts(100, 230));
        KIT.each("keeper in 31 were one", -1, w -> y.keeper(0, 1, false, w), 0, 29, 30);
        KIT.each("best, which in 31 were one", -1, what -> y.best(0, 1, what), 0, 1, 2);
        KIT.due("reachers(1)", y.reachers(1), 0);
        KIT.due("relay(0, 1, 0)", y.relay(0, 1, 0), -1);
        KIT.due("keepers(30)", y.keepers(30), 0);
    }

    /** As keeper or reaches, for a throw that is told by from, to and w. */
    private interface Throw {
        int asks(int from, int to, int w);
    }

    private static void throwRefused(String call, Throw one) {
        KIT.each(call + " from none", -2, s -> one.asks(s, 1, 0), Kit.LEAST, -1, 6, Kit.MOST);
        KIT.each(call + " from none, w none", -2, s -> one.asks(s, 1, 31), Kit.LEAST, -1, 6, Kit.MOST);
        KIT.each(call + " to none", -2, s -> one.asks(0, s, 0), Kit.LEAST, -2, 6, 9, Kit.MOST);
        KIT.each(call + " to none from who can't throw", -2, s -> one.asks(5, s, 31), Kit.LEAST, -2, 6, 9, Kit.MOST);
        KIT.each(call + " both one", -2, s -> one.asks(s, s, -1), -1, 0, 4, 5);
        KIT.each(call + " in w", -3, w -> one.asks(0, 1, w), Kit.LEAST, -1, 31, Kit.MOST);
        KIT.each(call + " in w from who can't throw", -3, w -> one.asks(5, 1, w), Kit.LEAST, -1, 31, Kit.MOST);
        KIT.each(call + " from who can't throw", -5, w -> one.asks(5, 1, w), 0, 30);
    }

    private static void keeperRefused() {
        KIT.says(21, "-2: SHORES, both one; -3: w; -5: it can't throw.");
        BottlePost x = Kit.sea(STAIRS);
        throwRefused("keeper", (from, to, w) -> x.keeper(from, to, false, w));
        throwRefused("keeper", (from, to, w) -> x.keeper(from, to, true, w));
        KIT.due("to whom it may, from who can't throw", x.keeper(5, -1, true, 0), -5);
        KIT.says(21, "A THROW from a SHORE to one (NONE: to whom it may) in w TIDES (0 to 30): by whom it is KEPT within 200 TIDES behind (NONE).");
        KIT.due("keeper(0, -1, true, 30)", x.keeper(0, -1, true, 30), 1);
        KIT.due("keeper(0, 5, true, 0)", x.keeper(0, 5, true, 0), 5);
        KIT.due("keeper(1, 0, true, 0)", x.keeper(1, 0, true, 0), -1);
    }

    private static void reachesRefused() {
        KIT.says(22, "NONE: it doesn't; -2: also to whom it may; -3; -5.");
        BottlePost x = Kit.sea(STAIRS);
        throwRefused("reaches", (from, to, w) -> x.reaches(from, to, false, w));
        throwRefused("reaches", (from, to, w) -> x.reaches(from, to, true, w));
        KIT.each("reaches to whom it may", -2, w -> x.reaches(0, -1, true, w), -1, 0, 30, 31);
        KIT.due("to whom it may, from who can't throw", x.reaches(5, -1, true, 0), -2);
        KIT.due("it doesn't", x.reaches(1, 0, true, 0), -1);
        KIT.due("reaches(0, 5, true, 30)", x.reaches(0, 5, true, 30), 35);
        // Kept by another, it doesn't.
        BottlePost y = Kit.sea(STAIRS + "keeps : finder = 4;");
        KIT.due("keeper(0, 5, true, 0)", y.keeper(0, 5, true, 0), 4);
        KIT.due("reaches(0, 5, true, 0)", y.reaches(0, 5, true, 0), -1);
        KIT.due("best(0, 5, 0)", y.best(0, 5, 0), -1);
    }

    private static void best(BottlePost x, int... due) {
        for (int what = 0; what < 3; what++) {
            KIT.due("best(0, 1, " + what + ")", x.best(0, 1, what), due[what]);
        }
    }

    private static void bestOfLike() {
        KIT.says(0, "BEST: that which reaches it soonest, of like ones the least w, light first.");
        String lane = "sea 4 2 tides 6;shore 0 0 throws east walks 0;current 1 0 2 2 2 2 2 2;current 2 0 2 2 2 2 2 2;";
        // All who are there by phase 5 are found in it.
        String sea = lane + "shore 3 0 throws south walks 5;";
        best(Kit.sea(sea), 6, 0, 0);
        // Light ones thrown at phase 0 are blown away: heavy in 0, though light in 1 comes as soon.
        best(Kit.sea(sea + "wind : tide * 999 * 999 * 9 + 3;"), 6, 0, 1);
        // Only those of the last tides don't sink.
        String slow = "sea 4 2 tides 6;shore 0 0 throws east walks 0;current 1 0 0 0 0 0 2 2;current 2 0 0 0 0 0 2 2;"
            + "shore 3 0 throws south walks 5;cork ";
        best(Kit.sea(slow + "2;"), 6, 4, 0);
        best(Kit.sea(slow + "3;"), 6, 3, 0);
        // Soonest goes ahead of the least w: in 0 it goes around and comes in 7, in 1 straight on.
        best(Kit.sea("sea 3 2 tides 6;shore 0 0 throws east walks 0;shore 2 0 throws south" + ALWAYS
            + "current 1 0 3 2 0 0 0 0;current 1 1 0 0 0 0 0 2;current 2 1 1 0 0 0 0 0;"), 2, 1, 0);
    }

    private static void bestRefused() {
        KIT.says(23, "NONE: none does; -2: SHORES, both one, what; -5: it can't throw.");
        BottlePost x = Kit.sea(STAIRS);
        KIT.each("best from none", -2, s -> x.best(s, 1, 0), Kit.LEAST, -1, 6, Kit.MOST);
        KIT.each("best to none", -2, s -> x.best(0, s, 0), Kit.LEAST, -1, 6, 9, Kit.MOST);
        KIT.each("best to none from who can't throw", -2, s -> x.best(5, s, 0), Kit.LEAST, -1, 6, 9, Kit.MOST);
        KIT.each("best, both one", -2, s -> x.best(s, s, 0), -1, 0, 4, 5);
        KIT.each("best of no what", -2, what -> x.best(0, 1, what), Kit.LEAST, -1, 3, Kit.MOST);
        KIT.each("best of no what from who can't throw", -2, what -> x.best(5, 1, what), Kit.LEAST, -1, 3, Kit.MOST);
        KIT.each("best from who can't throw", -5, what -> x.best(5, 1, what), 0, 1, 2);
        KIT.each("best where none does", -1, what -> x.best(1, 0, what), 0, 1, 2);
    }

    private static void reachers() {
        KIT.says(24, "SHORES from which some THROW (w 0 to 30) REACHES one, as bits. -2.");
        BottlePost x = Kit.sea(STAIRS);
        int[] due = {0, 1, 3, 7, 15, 31};
        for (int s = 0; s < 6; s++) {
            KIT.due("reachers(" + s + ")", x.reachers(s), due[s]);
        }
        KIT.each("reachers", -2, x::reachers, Kit.LEAST, -1, 6, Kit.MOST);
        BottlePost y = Kit.sea(STAIRS + "keeps : 1 = 1;");
        for (int s = 1; s < 6; s++) {
            KIT.due("reachers(" + s + ") of keepers", y.reachers(s), 1 << s - 1);
        }
    }

    private static void relay(BottlePost x, int from, int to, int... due) {
        int[] whats = {0, 1, 10, 11, 12, 13, 14, 15};
        for (int i = 0; i < whats.length; i++) {
            KIT.due("relay(" + from + ", " + to + ", " + whats[i] + ")", x.relay(from, to, whats[i]),
                i < due.length ? due[i] : -1);
        }
    }

    private static void relays() {
        KIT.says(25, "RELAY, what 0: in how many TIDES from now, 1: how many letters, 10 + k: the k-th SHORE on it (0: from; NONE: not so many). NONE: none does");
        BottlePost x = Kit.sea(STAIRS + "keeps : 1 = 1;");
        relay(x, 0, 5, 5, 5, 0, 1, 2, 3, 4, 5);
        relay(x, 1, 5, 4, 4, 1, 2, 3, 4, 5);
        relay(x, 4, 5, 1, 1, 4, 5);
        relay(x, 5, 0);
        relay(x, 1, 0);
        // The other way around, down to shore 0.
        x = Kit.sea("sea 6 6 tides 1;shore 5 5 throws east walks 0;shore 4 4 throws east walks 0;"
            + "shore 3 3 throws east walks 0;shore 2 2 throws east walks 0;shore 1 1 throws east walks 0;"
            + "shore 0 0 throws east walks 0;current 1 0 3;current 2 1 3;current 3 2 3;current 4 3 3;current 5 4 3;"
            + "keeps : 1 = 1;");
        relay(x, 5, 0, 5, 5, 5, 4, 3, 2, 1, 0);
        relay(x, 0, 5);
        KIT.says(0, "so that a SHORE is reached soonest; of like ones that with the fewest letters, then the first by SHORES.");
        relay(Kit.sea(STAIRS), 0, 5, 5, 1, 0, 5);
        // Kept on its way by the third: a letter to that, and one from there.
        relay(Kit.sea(STAIRS + "keeps : finder = 3;"), 0, 5, 5, 2, 0, 3, 5);
        // Kept by the fourth, third, second who finds it: no letter comes further; of like ones the first by shores.
        relay(Kit.sea(STAIRS + "keeps : passed = 3;"), 0, 5, 5, 2, 0, 1, 5);
        relay(Kit.sea(STAIRS + "keeps : passed = 2;"), 0, 5, 5, 2, 0, 2, 5);
        relay(Kit.sea(STAIRS + "keeps : passed = 1;"), 0, 5, 5, 3, 0, 1, 3, 5);
    }

    private static void relaysWait() {
        KIT.says(0, "each thrown to the next by BEST as if it were the TIDE then at which the one ahead came (w from then)");
        // What isn't carried on in its first tide sinks: each throw must be made at the very tide of its wind.
        String sea = "sea 4 2 tides 6;shore 0 0 throws east" + ALWAYS + "shore 3 1 throws north" + ALWAYS
            + "shore 2 0 throws south" + ALWAYS + "cork 1;";
        relay(Kit.sea(sea + Kit.wafts(0, 2)), 0, 1, 3, 2, 0, 2, 1);
        relay(Kit.sea(sea + Kit.wafts(30, 32)), 0, 1, 33, 2, 0, 2, 1);
        relay(Kit.sea(sea + Kit.wafts(30, 61)), 0, 1, 62, 2, 0, 2, 1);
        relay(Kit.sea(sea + Kit.wafts(30, 62)), 0, 1);
        relay(Kit.sea(sea + Kit.wafts(31, 32)), 0, 1);
        relay(Kit.sea(sea + Kit.wafts(30, 30)), 0, 1);
        // Passed on in the one tide it comes on by the next, as a single letter.
        relay(Kit.sea(sea + Kit.wafts(0, 1)), 0, 1, 2, 1, 0, 1);
        BottlePost x = Kit.sea(sea + Kit.wafts(31, 62));
        x.tides(1);
        relay(x, 0, 1, 62, 2, 0, 2, 1);
    }

    private static void relayRefused() {
        KIT.says(25, "-2: SHORES, both one, what (10 to 15).");
        BottlePost x = Kit.sea(STAIRS);
        KIT.each("relay from none", -2, s -> x.relay(s, 1, 0), Kit.LEAST, -1, 6, Kit.MOST);
        KIT.each("relay to none", -2, s -> x.relay(0, s, 0), Kit.LEAST, -1, 6, 9, Kit.MOST);
        KIT.each("relay, both one", -2, s -> x.relay(s, s, 0), -1, 0, 4, 5);
        KIT.each("relay of no what", -2, what -> x.relay(0, 1, what), Kit.LEAST, -1, 2, 3, 9, 16, 17, Kit.MOST);
        KIT.each("relay of no what where none does", -2, what -> x.relay(5, 1, what), -1, 2, 9, 16);
        // Who can't throw may be asked: none does.
        KIT.each("relay from who can't throw", -1, what -> x.relay(5, 1, what), 0, 1, 10, 15);
    }

    private static void keepers() {
        KIT.says(26, "A THROW to whom it may, light, in w TIDES for each SHORE that can throw: SHORES that would be keepers of some, as bits. -3: w.");
        BottlePost x = Kit.sea(STAIRS);
        KIT.due("keepers(0)", x.keepers(0), 62);
        KIT.due("keepers(30)", x.keepers(30), 62);
        KIT.each("keepers", -3, x::keepers, Kit.LEAST, -1, 31, Kit.MOST);
        KIT.due("none can throw", Kit.sea("sea 2 2 tides 1;shore 0 0 throws north walks 0;").keepers(0), 0);
        KIT.due("no shores", Kit.sea("sea 2 2 tides 1;").keepers(0), 0);
        StringBuilder six = new StringBuilder("sea 6 2 tides 1;");
        for (int s = 0; s < 6; s++) {
            six.append("shore ").append(s).append(" 0 throws south walks 0;current ").append(s).append(" 1 1;");
        }
        KIT.due("each its own", Kit.sea(six.toString()).keepers(0), 63);
        // Light ones: all are blown east along the row, to where the last one's comes back.
        KIT.due("all by one", Kit.sea(six + "current 0 1 0;current 1 1 0;current 2 1 0;current 3 1 0;current 4 1 0;"
            + "wind : 2;").keepers(0), 32);
        // Heavy ones would be kept.
        KIT.due("none", Kit.sea("sea 3 2 tides 1;shore 0 0 throws south walks 0;current 0 1 2;current 1 1 2;"
            + "shore 2 1 throws north walks 0;wind : 1;rock 1 0;").keepers(0), 0);
    }

    private static void without() {
        KIT.says(27, "By how many TIDES later BEST comes, if people at a SHORE (neither) walked at no PHASE. NONE: it comes no more, or doesn't now");
        BottlePost x = Kit.sea(STAIRS);
        KIT.each("it comes no more", -1, s -> x.without(0, 5, s), 1, 2, 3, 4);
        KIT.each("it comes by others", 0, s -> x.without(0, 1, s), 2, 3, 4, 5);
        KIT.each("it doesn't now", -1, s -> x.without(1, 0, s), 2, 3, 4, 5);
        KIT.due("who can't throw passes nothing on", x.without(0, 4, 5), 0);
        // People who keep it, were they gone, it comes all the less.
        BottlePost y = Kit.sea(STAIRS + "keeps : 1 = 1;");
        KIT.due("it doesn't now", y.without(0, 2, 1), -1);
        KIT.due("shore(1, 2)", y.shore(1, 2), 1);
        // By shore 2 it comes in 3; around it only by the wind of one tide at phase 0, in 33 by a wait of 30.
        String sea = "sea 4 2 tides 6;shore 0 0 throws east" + ALWAYS + "shore 3 1 throws north" + ALWAYS
            + "shore 1 1 throws east" + ALWAYS + "current 1 0 0 3 3 3 3 3;current 2 0 3 3 3 3 3 3;current 2 1 2 2 2 2 2 2;";
        BottlePost z = Kit.sea(sea + Kit.wafts(30, 100));
        KIT.due("best(0, 1, 0)", z.best(0, 1, 0), 3);
        KIT.due("without(0, 1, 2)", z.without(0, 1, 2), 30);
        KIT.due("best(0, 1, 0) still", z.best(0, 1, 0), 3);
        KIT.due("shore(2, 2)", z.shore(2, 2), 63);
        z = Kit.sea(sea + Kit.wafts(36, 100));
        KIT.due("without(0, 1, 2), by a wait of 36", z.without(0, 1, 2), -1);
        z.tides(6);
        KIT.due("without(0, 1, 2), by a wait of 30", z.without(0, 1, 2), 30);
    }

    private static void withoutRefused() {
        KIT.says(27, "-2: SHORES, two are one; -5: it can't throw.");
        BottlePost x = Kit.sea(STAIRS);
        KIT.each("without from none", -2, s -> x.without(s, 1, 2), Kit.LEAST, -1, 6, Kit.MOST);
        KIT.each("without to none", -2, s -> x.without(0, s, 2), Kit.LEAST, -1, 6, 9, Kit.MOST);
        KIT.each("without none", -2, s -> x.without(0, 1, s), Kit.LEAST, -1, 6, Kit.MOST);
        KIT.each("without one of both", -2, s -> x.without(0, 1, s), 0, 1);
        KIT.each("from and to one", -2, s -> x.without(s, s, 2), 0, 1, 3);
        KIT.each("without none from who can't throw", -2, s -> x.without(5, 1, s), -1, 1, 5, 6);
        KIT.each("without from who can't throw", -5, s -> x.without(5, 1, s), 0, 2, 3, 4);
    }
}
