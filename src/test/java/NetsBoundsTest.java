/** Boundary cases of nets and of who threw what was seen, promises 28 to 35, each under the sentence that names it. */
final class NetsBoundsTest {
    private static final Kit KIT = new Kit("NetsBoundsTest");
    private static final String ALWAYS = " walks 0 1 2 3 4 5;";
    /** Light ones go from cell 1 to 2 and to 3 when the wind wafts; 3 is what the line behind tells. */
    private static final String LATE = "sea 4 2 tides 6;shore 0 0 throws east" + ALWAYS;
    private static final String GOAL = "shore 3 0 throws south" + ALWAYS;
    private static final String STILL = "sea 3 2 tides 1;shore 0 0 throws east walks 0;";
    /** Six shores in a row, each throws south onto still water. */
    private static final String SIX = "sea 6 3 tides 1;shore 0 0 throws south walks 0;shore 1 0 throws south walks 0;"
        + "shore 2 0 throws south walks 0;shore 3 0 throws south walks 0;shore 4 0 throws south walks 0;"
        + "shore 5 0 throws south walks 0;";

    public static void main(String[] args) {
        catchesWithin();
        catchesWhatLies();
        catchesAll();
        catchesRefused();
        nets();
        netsRefused();
        calm();
        calmRefused();
        deadlyWithin();
        deadlyBottles();
        eddies();
        eddiesBreak();
        eddiesRefused();
        seenSoLongAgo();
        seenFromTideNought();
        seenInOrder();
        seenAtSeaOrLying();
        oneToFourTwos();
        seenRefused();
        throwers();
        throwersRefused();
        suspects();
        KIT.covers(28, 35);
        KIT.end();
    }

    private static BottlePost thrown(String sea) {
        BottlePost x = Kit.sea(sea);
        x.throwsIt(0, -1, false);
        return x;
    }

    private static void catchesWithin() {
        KIT.says(0, "CATCH of a NET on a CELL of open sea within n TIDES (1 to 60)");
        int[][] due = {{59, 1, 1}, {60, 0, 1}, {61, 0, 0}};
        for (int[] d : due) {
            // It comes to cell 2 at the end of that tide.
            BottlePost x = thrown(LATE + GOAL + Kit.wafts(d[0] - 1, 100));
            KIT.due("catches(2, 59) by " + d[0], x.catches(2, 59), d[1]);
            KIT.due("catches(2, 60) by " + d[0], x.catches(2, 60), d[2]);
            KIT.due("calm(59) by " + d[0], x.calm(59), 244 - 4 * d[1]);
            KIT.due("calm(60) by " + d[0], x.calm(60), 244 - 4 * d[2]);
        }
        BottlePost x = thrown(LATE + GOAL + Kit.wafts(0, 1));
        KIT.due("now", x.catches(1, 1), 1);
        KIT.due("at the end of the first", x.catches(2, 1), 1);
        KIT.due("kept in the second", x.catches(2, 2), 1);
        x.tides(1);
        KIT.due("no more", x.catches(1, 60), 0);
    }

    private static void catchesWhatLies() {
        KIT.says(0, "BOTTLES AT SEA or that LIE now that are on it at the end of one of these TIDES, or now.");
        // It lies from the first tide on, and is passed on to cell 1 in that of phase 5.
        BottlePost x = Kit.sea("sea 3 2 tides 6;shore 0 0 throws east walks 5;shore 2 1 throws north walks 0;"
            + "current 1 0 4 0 0 0 0 0;");
        x.throwsIt(0, 1, true);
        x.tides(1);
        KIT.due("catches(1, 4)", x.catches(1, 4), 0);
        KIT.due("catches(1, 5)", x.catches(1, 5), 1);
        KIT.due("net(4, 1)", x.net(4, 1), 0);
        KIT.due("net(5, 1)", x.net(5, 1), 1);
        // Neither kept ones, broken, sunk, nor lifted ones, though they were last on that cell.
        x = Kit.sea(SIX + "rock 0 2;current 0 1 3;current 1 1 1;cork 1;");
        for (int s = 0; s < 4; s++) {
            x.throwsIt(s, -1, true);
        }
        x.lift(3);
        x.tides(1);
        for (int k = 6; k < 10; k++) {
            KIT.due("catches(" + k + ", 60)", x.catches(k, 60), 0);
        }
        KIT.due("calm(60)", x.calm(60), 0x3efc0);
        // One that sinks isn't there at the end of that tide.
        x = Kit.sea("sea 4 2 tides 1;shore 0 0 throws east walks 0;current 1 0 2;current 2 0 2;cork 2;");
        x.throwsIt(0, -1, true);
        KIT.due("ahead of sinking", x.catches(2, 60), 1);
        KIT.due("in sinking", x.catches(3, 60), 0);
    }

    private static void catchesAll() {
        KIT.says(28, "CATCH, as bits.");
        BottlePost x = Kit.sea(SIX);
        KIT.due("none is thrown", x.catches(6, 60), 0);
        for (int b = 0; b < 8; b++) {
            x.throwsIt(0, -1, b % 2 == 0);
            KIT.due("catches(6, 1) of " + (b + 1), x.catches(6, 1), (1 << b + 1) - 1);
        }
        KIT.due("net(60, 0)", x.net(60, 0), 6);
        KIT.due("net(60, 1)", x.net(60, 1), 8);
        KIT.due("catches(17, 60)", x.catches(17, 60), 0);
    }

    private static void catchesRefused() {
        KIT.says(28, "-2: the CELL; -3: n; -5: it isn't open sea.");
        BottlePost x = Kit.sea(SIX + "rock 5 2;");
        KIT.each("catches on no cell", -2, k -> x.catches(k, 1), Kit.LEAST, -1, 18, 35, Kit.MOST);
        KIT.each("catches on no cell, n none", -2, k -> x.catches(k, 0), Kit.LEAST, -1, 18, 35, Kit.MOST);
        KIT.each("catches within n", -3, n -> x.catches(6, n), Kit.LEAST, -1, 0, 61, Kit.MOST);
        KIT.each("catches within n on a rock", -3, n -> x.catches(17, n), Kit.LEAST, -1, 0, 61, Kit.MOST);
        KIT.each("catches on no open sea", -5, k -> x.catches(k, 60), 0, 5, 17);
        KIT.each("catches on open sea", 0, k -> x.catches(k, 1), 6, 11, 12, 16);
    }

    private static void nets() {
        KIT.says(29, "The CELL whose NET CATCHES most within n TIDES (1 to 60), the first, what 0: the CELL, 1: how many. NONE: no open sea");
        BottlePost x = Kit.sea(SIX);
        KIT.due("none to catch, 0", x.net(1, 0), 6);
        KIT.due("none to catch, 1", x.net(1, 1), 0);
        x.throwsIt(5, -1, true);
        x.throwsIt(3, -1, true);
        KIT.due("of like ones the first, 0", x.net(60, 0), 9);
        KIT.due("of like ones the first, 1", x.net(60, 1), 1);
        x.throwsIt(5, -1, true);
        KIT.due("the most, 0", x.net(60, 0), 11);
        KIT.due("the most, 1", x.net(60, 1), 2);
        // The last cell of all.
        x.storm(11, 17);
        KIT.due("the last, 0", x.net(1, 0), 17);
        BottlePost y = thrown(LATE + GOAL + Kit.wafts(59, 100));
        y.throwsIt(0, -1, false);
        y.storm(1, 6);
        y.throwsIt(0, -1, false);
        KIT.due("net(59, 1)", y.net(59, 1), 2);
        KIT.due("net(60, 0)", y.net(60, 0), 6);
        // The first cell of all.
        BottlePost first = Kit.sea("sea 2 2 tides 1;shore 1 0 throws west walks 0;");
        KIT.due("none to catch, 0", first.net(60, 0), 0);
        KIT.due("none to catch on cell 0", first.catches(0, 60), 0);
        first.throwsIt(0, -1, true);
        KIT.due("the first, 0", first.net(60, 0), 0);
        KIT.due("the first, 1", first.net(60, 1), 1);
        KIT.due("catches(0, 1)", first.catches(0, 1), 1);
        first.undo(1);
        KIT.due("undone", first.catches(0, 1), 0);
        KIT.due("undone, the most", first.net(60, 1), 0);
        BottlePost z = Kit.sea("sea 2 2 tides 1;rock 0 0;rock 1 0;shore 0 1 throws east walks 0;rock 1 1;");
        KIT.each("no open sea", -1, n -> z.net(n, 0), 1, 60);
        KIT.each("no open sea", -1, n -> z.net(n, 1), 1, 60);
        KIT.due("calm(60) of no open sea", z.calm(60), 0);
    }

    private static void netsRefused() {
        KIT.says(29, "-2: what; -3.");
        BottlePost x = Kit.sea(STILL);
        BottlePost y = new BottlePost();
        KIT.each("net of no what", -2, what -> x.net(1, what), Kit.LEAST, -1, 2, Kit.MOST);
        KIT.each("net of no what, n none", -2, what -> x.net(0, what), Kit.LEAST, -1, 2, Kit.MOST);
        KIT.each("net within n", -3, n -> x.net(n, 0), Kit.LEAST, -1, 0, 61, Kit.MOST);
        KIT.each("net within n, 1", -3, n -> x.net(n, 1), Kit.LEAST, -1, 0, 61, Kit.MOST);
        KIT.each("net of no what, no open sea", -2, what -> y.net(1, what), -1, 2);
        KIT.each("net within n, no open sea", -3, n -> y.net(n, 0), 0, 61);
    }

    private static void calm() {
        KIT.says(30, "CELLS of open sea on which no BOTTLE AT SEA now is at the end of any of the next n TIDES (1 to 60), nor now, as bits.");
        KIT.due("all 36", Kit.sea("sea 6 6 tides 1;").calm(60), 0xfffffffffL);
        KIT.due("all but the first and the last", Kit.sea("sea 6 6 tides 1;rock 0 0;rock 5 5;").calm(1), 0x7fffffffeL);
        BottlePost x = Kit.sea("sea 6 6 tides 1;shore 5 4 throws south walks 0;");
        x.throwsIt(0, -1, true);
        KIT.due("but the last, where one is", x.calm(1), 0x7dfffffffL);
        x.lift(0);
        KIT.due("lifted", x.calm(1), 0xfdfffffffL);
        KIT.due("none", new BottlePost().calm(1), 0);
        // Now, and at the end of each of the next; not on its way within a tide.
        x = Kit.sea("sea 6 2 tides 1;shore 0 0 throws east walks 0;current 1 0 2;current 2 0 2;current 3 0 2;"
            + "current 4 0 2;moon 2 springs 2;");
        x.throwsIt(0, -1, true);
        KIT.due("calm(1)", x.calm(1), 0xffe - 2 - 8);
        KIT.due("calm(2)", x.calm(2), 0xffe - 2 - 8 - 32);
    }

    private static void calmRefused() {
        KIT.says(30, "nor now, as bits. -3.");
        BottlePost x = Kit.sea(STILL);
        KIT.each("calm", -3, x::calm, Kit.LEAST, -1, 0, 61, Kit.MOST);
        KIT.each("calm without a sea", -3, new BottlePost()::calm, Kit.LEAST, -1, 0, 61, Kit.MOST);
        KIT.each("calm", 62, x::calm, 1, 60);
    }

    private static void deadlyWithin() {
        KIT.says(31, "CELLS of open sea from which a BOTTLE so heavy, being there now, would be BROKEN within 200 TIDES (to whom it may, AGE 0), as bits.");
        // From cell 2 in the tide 25 or 26, from cell 1 in the 200th or the 201st.
        BottlePost x = Kit.sea(LATE + "rock 3 0;" + Kit.wafts(100, 199));
        KIT.due("deadly(false) by the 200th", x.deadly(false), 6);
        KIT.due("deadly(true)", x.deadly(true), 0);
        x = Kit.sea(LATE + "rock 3 0;" + Kit.wafts(100, 200));
        KIT.due("deadly(false) by the 201st", x.deadly(false), 4);
        x.tides(1);
        KIT.due("deadly(false) by the 200th", x.deadly(false), 6);
        KIT.due("the first cell", Kit.sea("sea 2 2 tides 1;rock 1 0;current 0 0 2;").deadly(true), 1);
        KIT.due("the last cell", Kit.sea("sea 6 6 tides 1;rock 4 5;current 5 5 4;").deadly(true), 1L << 35);
        KIT.due("a rock itself isn't one", Kit.sea("sea 2 2 tides 1;rock 0 0;").deadly(true), 0);
    }

    private static void deadlyBottles() {
        KIT.says(31, "(to whom it may, AGE 0)");
        String lane = "sea 6 6 tides 1;rock 5 5;current 0 5 2;current 1 5 2;current 2 5 2;current 3 5 2;current 4 5 2;";
        long row = 31L << 30;
        KIT.due("deadly(true)", Kit.sea(lane).deadly(true), row);
        // The cork of a new one, whatever is at sea: 2 tides bring it two cells on; in the tide of breaking it breaks.
        BottlePost x = Kit.sea(lane + "cork 2;shore 0 0 throws south walks 0;");
        x.throwsIt(0, -1, true);
        x.tides(1);
        KIT.due("deadly(true)", x.deadly(true), 3L << 33);
        KIT.due("deadly(true) by cork 1", Kit.sea(lane + "cork 1;").deadly(true), 1L << 34);
        KIT.due("deadly(true) by cork 5", Kit.sea(lane + "cork 5;").deadly(true), row);
        KIT.due("deadly(true) by cork 4", Kit.sea(lane + "cork 4;").deadly(true), row - (1L << 30));
        // Who finds it keeps it, though the law were against that; from where none walks then it doesn't come.
        KIT.due("deadly(true) past a shore", Kit.sea(lane + "shore 3 5 throws east walks 0;keeps : 1 = 2;").deadly(true),
            1L << 34);
    }

    private static void eddies() {
        KIT.says(32, "in how many TIDES (1 to 200). NONE: no");
        KIT.due("at once", Kit.sea("sea 2 2 tides 1;").eddy(3, true), 1);
        KIT.due("at the next of its phase", Kit.sea("sea 2 2 tides 6;").eddy(3, true), 6);
        KIT.due("at the next of its moon", Kit.sea("sea 2 2 tides 1;moon 30 springs 0;").eddy(3, true), 30);
        KIT.due("of both", Kit.sea("sea 2 2 tides 6;moon 29 springs 0;").eddy(3, true), 174);
        KIT.due("of both, alike", Kit.sea("sea 2 2 tides 6;moon 30 springs 0;").eddy(3, true), 30);
        String eight = "current 0 0 2;current 1 0 2;current 2 0 3;current 2 1 3;current 2 2 4;current 1 2 4;"
            + "current 0 2 1;current 0 1 1;";
        String round = "sea 3 3 tides 1;" + eight;
        KIT.due("a round of 8", Kit.sea(round).eddy(0, true), 8);
        KIT.due("by 25: the 200th", Kit.sea(round + "moon 25 springs 0;").eddy(0, true), 200);
        KIT.due("by 27: the 216th", Kit.sea(round + "moon 27 springs 0;").eddy(0, true), -1);
        // From where one drifts into the round one comes back no more.
        KIT.due("into the round", Kit.sea(round + "current 1 1 1;").eddy(4, true), -1);
        BottlePost x = Kit.sea(round + "moon 25 springs 0;");
        x.tides(99);
        KIT.due("from any tide", x.eddy(0, true), 200);
    }

    private static void eddiesBreak() {
        KIT.says(32, "would come back to it, AT SEA, at the same PHASE and MOON, never being BROKEN, lying, as if corks held");
        String two = "sea 3 2 tides 2;current 0 0 2 2;current 1 0 4 4;";
        KIT.due("eddy(0, true)", Kit.sea(two).eddy(0, true), 2);
        KIT.due("as if corks held", Kit.sea(two + "cork 1;").eddy(0, true), 2);
        KIT.due("the light one is blown away", Kit.sea(two + "wind : 3;").eddy(0, false), -1);
        KIT.due("the heavy one isn't", Kit.sea(two + "wind : 3;").eddy(0, true), 2);
        KIT.due("broken", Kit.sea("sea 3 2 tides 1;rock 1 0;current 0 0 2;").eddy(0, true), -1);
        // It would lie, be found, and come back to the very cell in the same tide.
        KIT.due("lying", Kit.sea("sea 3 2 tides 1;shore 1 0 throws west walks 0;shore 2 1 throws west walks 0;"
            + "current 0 0 2;").eddy(0, true), -1);
        // From phase 0 on: there at phase 0, back at phase 1.
        BottlePost turn = Kit.sea("sea 3 2 tides 2;current 0 0 2 0;current 1 0 0 4;");
        KIT.due("there and back", turn.eddy(0, true), 2);
        KIT.due("back, and no more there", turn.eddy(1, true), -1);
        turn.tides(1);
        KIT.due("there no more", turn.eddy(0, true), -1);
        KIT.due("back and there", turn.eddy(1, true), 2);
        turn = Kit.sea("sea 3 2 tides 3;current 0 0 2 0 0;current 1 0 0 0 4;");
        KIT.due("there at phase 0, back at phase 2", turn.eddy(0, true), 3);
        KIT.due("back, and no more there", turn.eddy(1, true), -1);
        turn.tides(2);
        KIT.due("from phase 2, there no more", turn.eddy(0, true), -1);
        KIT.due("from phase 2, back and there", turn.eddy(1, true), 3);
        // Back at another phase first, which doesn't count.
        BottlePost x = Kit.sea("sea 2 2 tides 3;current 0 0 2 2 0;current 1 0 4 4 0;");
        KIT.due("there after 2, at its phase after 3", x.eddy(0, true), 3);
        x.tides(1);
        KIT.due("from phase 1", x.eddy(0, true), 3);
    }

    private static void eddiesRefused() {
        KIT.says(32, "-2: the CELL; -5: it isn't open sea.");
        BottlePost x = Kit.sea(SIX + "rock 5 2;");
        KIT.each("eddy of no cell", -2, k -> x.eddy(k, true), Kit.LEAST, -1, 18, 35, Kit.MOST);
        KIT.each("eddy of no cell", -2, k -> x.eddy(k, false), Kit.LEAST, -1, 18, 35, Kit.MOST);
        KIT.each("eddy of no open sea", -5, k -> x.eddy(k, true), 0, 5, 17);
        KIT.each("eddy of no open sea", -5, k -> x.eddy(k, false), 0, 5, 17);
        KIT.each("eddy of open sea", 1, k -> x.eddy(k, false), 6, 11, 12, 16);
    }

    private static void seenSoLongAgo() {
        KIT.says(0, "(1 to 4 twos of numbers: a CELL, how many TIDES ago, 0 to 30)");
        BottlePost x = Kit.sea(STILL);
        x.tides(99);
        int[] due = {62, 60, 32, 4, 2};
        int[] ago = {0, 1, 15, 29, 30};
        for (int i = 0; i < ago.length; i++) {
            Kit.tray(x, 0, 0, 1, ago[i]);
            KIT.due("seen " + ago[i] + " ago", x.seen(0), due[i]);
        }
        Kit.tray(x, 0, 0, 1, 31);
        KIT.due("seen 31 ago", x.seen(0), -3);
        // It had been thrown so many tides ago, on each of the cells then.
        Kit.tray(x, 0, 0, 1, 30, 1, 0);
        KIT.due("seen 30 ago and now", x.seen(0), 2);
        Kit.tray(x, 0, 0, 1, 30, 2, 0);
        KIT.due("seen 30 ago, and elsewhere now", x.seen(0), 0);
    }

    private static void seenFromTideNought() {
        KIT.says(0, "t TIDES ago (0 to 30, not ahead of TIDE 0)");
        BottlePost x = Kit.sea(STILL);
        Kit.tray(x, 0, 0, 1, 0);
        Kit.tray(x, 1, 0, 1, 30);
        for (int tide = 0; tide <= 33; tide++) {
            KIT.due("seen now, at " + tide, x.seen(0), 2 * (Math.min(tide, 30) + 1));
            KIT.due("seen 30 ago, at " + tide, x.seen(1), tide < 30 ? 0 : 2);
            x.tides(1);
        }
    }

    private static void seenInOrder() {
        KIT.says(0, "in order by from, to, weight (light first), t.");
        BottlePost x = Kit.sea("sea 3 3 tides 1;shore 0 1 throws east walks 0;shore 2 1 throws west walks 0;"
            + "shore 1 0 throws south walks 0;shore 0 0 throws north walks 0;");
        x.tides(1);
        Kit.tray(x, 0, 0, 4, 0);
        int k = 0;
        for (int from = 0; from < 3; from++) {
            for (int to = -1; to < 4; to++) {
                for (int row = 0; row < 4 && to != from; row++) {
                    int[] due = {from, to, row / 2, row % 2};
                    for (int what = 0; what < 4; what++) {
                        KIT.due("thrower(0, " + k + ", " + what + ")", x.thrower(0, k, what), due[what]);
                    }
                    k++;
                }
            }
        }
        KIT.due("seen(0)", x.seen(0), k);
        KIT.due("suspects(0)", x.suspects(0), 7);
    }

    private static void seenAtSeaOrLying() {
        KIT.says(0, "by which a BOTTLE was on each of these CELLS then (AT SEA or lying there; so many TIDES ago it had been thrown)");
        BottlePost x = Kit.sea(STILL + "cork 3;");
        x.tides(50);
        Kit.tray(x, 0, 0, 1, 0);
        KIT.due("till it sinks", x.seen(0), 6);
        x = Kit.sea("sea 3 2 tides 1;shore 0 0 throws east walks 0;rock 2 0;current 1 0 2;");
        x.tides(50);
        Kit.tray(x, 0, 0, 2, 0);
        KIT.due("broken there", x.seen(0), 0);
        x = Kit.sea("sea 3 2 tides 4;shore 0 0 throws east walks 0;shore 2 0 throws south walks 3;current 1 0 2 2 2 2;");
        Kit.tray(x, 0, 0, 2, 0);
        // To whom it may and to shore 1, light and heavy: it lies there from phase 0 on, and in phase 3 it is kept.
        int[] due = {0, 4, 8, 12, 0, 4};
        for (int tide = 0; tide < due.length; tide++) {
            KIT.due("lying there at " + tide, x.seen(0), due[tide]);
            x.tides(1);
        }
        // Light ones drift by the wind, heavy ones don't.
        x = Kit.sea(STILL + "wind : 2;");
        x.tides(1);
        Kit.tray(x, 0, 0, 2, 0);
        KIT.due("a light one", x.seen(0), 1);
        KIT.due("light", x.thrower(0, 0, 2), 0);
        KIT.due("1 ago", x.thrower(0, 0, 3), 1);
        Kit.tray(x, 0, 0, 1, 0, 1, 1);
        KIT.due("a heavy one", x.seen(0), 1);
        KIT.due("heavy", x.thrower(0, 0, 2), 1);
        // What is seen has nothing to do with bottles that were thrown.
        x = Kit.sea(STILL);
        Kit.tray(x, 0, 0, 1, 0);
        for (int b = 0; b < 8; b++) {
            x.throwsIt(0, -1, true);
        }
        KIT.due("seen(0)", x.seen(0), 2);
    }

    private static void oneToFourTwos() {
        KIT.says(33, "-4: not 1 to 4 twos");
        BottlePost x = Kit.sea(STILL);
        x.tides(9);
        for (int n = 0; n <= 40; n++) {
            boolean twos = n % 2 == 0 && n >= 2 && n <= 8;
            x.numbers(0, n % 4, n);
            KIT.due("seen of " + n, x.seen(0), twos ? 0 : -4);
            KIT.due("suspects of " + n, x.suspects(0), twos ? 0 : -4);
            KIT.due("thrower of " + n, x.thrower(0, 0, 0), twos ? -1 : -4);
        }
        Kit.tray(x, 0, 0, 1, 0, 1, 1, 1, 2, 1, 3);
        KIT.due("four twos", x.seen(0), 14);
        Kit.tray(x, 0, 0, 1, 3, 1, 3, 1, 3, 1, 3);
        KIT.due("four times one", x.seen(0), 14);
        Kit.tray(x, 0, 0, 1, 0, 1, 1, 1, 2, 2, 3);
        KIT.due("the fourth is against it", x.seen(0), 0);
    }

    private static void seenRefused() {
        KIT.says(33, "SEEN: how many THROWS. -2: the TRAY; -6; -4: not 1 to 4 twos; -3: no such CELL, TIDES.");
        BottlePost x = Kit.sea("sea 6 6 tides 1;");
        KIT.each("seen of no tray", -2, x::seen, Kit.LEAST, -1, 4, Kit.MOST);
        KIT.each("seen, the tray missing", -6, x::seen, 0, 1, 2, 3);
        long[][] wrong = {{-1, 0}, {36, 0}, {99, 0}, {0, -1}, {0, 31}, {0, Long.MAX_VALUE}, {Long.MIN_VALUE, 0},
            {1L << 32, 0}, {0, 1L << 32}, {0, 0, 36, 0}, {0, 0, 0, 31}, {0, 0, 0, 0, 36, 0}, {0, 0, 0, 0, 0, 31},
            {0, 0, 0, 0, 0, 0, 36, 0}, {0, 0, 0, 0, 0, 0, 0, 31}};
        for (long[] row : wrong) {
            Kit.tray(x, 2, 3, row);
            KIT.due("seen", x.seen(2), -3);
        }
        Kit.tray(x, 2, 3, 35, 30, 0, 0);
        KIT.due("the last cell, and the first", x.seen(2), 0);
        Kit.tray(x, 2, 3, 36, 31, 36);
        KIT.due("no twos, ahead of no cell", x.seen(2), -4);
        // Cut to 8 bits it is another cell.
        Kit.tray(x, 2, 0, 256 + 35, 256 + 30);
        KIT.due("cut", x.seen(2), 0);
        BottlePost y = new BottlePost();
        Kit.tray(y, 0, 0, 0, 0);
        KIT.due("no sea, no cell", y.seen(0), -3);
    }

    private static void throwers() {
        KIT.says(34, "The k-th of these, what 0: from, 1: to (NONE), 2: 1 if heavy, else 0, 3: t. NONE: not so many (for to: -9)");
        BottlePost x = Kit.sea(STILL);
        x.tides(30);
        Kit.tray(x, 0, 0, 1, 0);
        int[][] due = {{0, 0, -1, 0, 0}, {30, 0, -1, 0, 30}, {31, 0, -1, 1, 0}, {61, 0, -1, 1, 30}, {62, -1, -9, -1, -1},
            {Kit.MOST, -1, -9, -1, -1}};
        for (int[] d : due) {
            for (int what = 0; what < 4; what++) {
                KIT.due("thrower(0, " + d[0] + ", " + what + ")", x.thrower(0, d[0], what), d[what + 1]);
            }
        }
        Kit.tray(x, 0, 0, 2, 0);
        KIT.due("none at all, from", x.thrower(0, 0, 0), -1);
        KIT.due("none at all, to", x.thrower(0, 0, 1), -9);
    }

    private static void throwersRefused() {
        KIT.says(34, "-2: also what; else as seen(); -3 also: k is below 0.");
        BottlePost x = Kit.sea(STILL);
        Kit.tray(x, 0, 0, 1, 0);
        KIT.each("thrower of no tray", -2, tray -> x.thrower(tray, 0, 0), Kit.LEAST, -1, 4, Kit.MOST);
        KIT.each("thrower of no what", -2, what -> x.thrower(0, 0, what), Kit.LEAST, -1, 4, Kit.MOST);
        KIT.each("thrower of no what, k none", -2, what -> x.thrower(0, -1, what), Kit.LEAST, -1, 4, Kit.MOST);
        KIT.each("thrower of no what, behind the last", -2, what -> x.thrower(0, 99, what), -1, 4);
        KIT.each("thrower of no what, the tray missing", -2, what -> x.thrower(3, 0, what), -1, 4);
        KIT.each("thrower, the tray missing", -6, k -> x.thrower(3, k, 1), Kit.LEAST, -1, 0, Kit.MOST);
        KIT.each("thrower, k below 0", -3, k -> x.thrower(0, k, 1), Kit.LEAST, -1);
        x.numbers(1, 0, 3);
        KIT.each("thrower, no twos", -4, k -> x.thrower(1, k, 1), Kit.LEAST, -1, 0, Kit.MOST);
        Kit.tray(x, 1, 0, 1, 31);
        KIT.each("thrower, no tides", -3, k -> x.thrower(1, k, 1), Kit.LEAST, -1, 0, Kit.MOST);
    }

    private static void suspects() {
        KIT.says(35, "SHORES from which it may have been thrown, as bits. Codes as seen().");
        BottlePost x = Kit.sea(SIX);
        for (int s = 0; s < 6; s++) {
            Kit.tray(x, 0, 0, 6 + s, 0);
            KIT.due("suspects of " + (6 + s), x.suspects(0), 1 << s);
            KIT.due("seen of " + (6 + s), x.seen(0), 12);
        }
        Kit.tray(x, 0, 0, 17, 0);
        KIT.due("none", x.suspects(0), 0);
        KIT.each("suspects of no tray", -2, x::suspects, Kit.LEAST, -1, 4, Kit.MOST);
        KIT.each("suspects, the tray missing", -6, x::suspects, 1, 2, 3);
        Kit.tray(x, 0, 0, 18, 0);
        KIT.due("no such cell", x.suspects(0), -3);
        Kit.tray(x, 0, 0, 0, 31);
        KIT.due("no such tides", x.suspects(0), -3);
        Kit.tray(x, 0, 0, 18, 31, 0);
        KIT.due("no twos", x.suspects(0), -4);
        // All six: the row below drifts to its end in five tides, and stays there.
        BottlePost y = Kit.sea(SIX + "current 0 1 2;current 1 1 2;current 2 1 2;current 3 1 2;current 4 1 2;");
        y.tides(5);
        Kit.tray(y, 0, 0, 11, 0);
        KIT.due("all six", y.suspects(0), 63);
    }
}
