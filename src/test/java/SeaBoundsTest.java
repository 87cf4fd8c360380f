/** Boundary cases of the sea's text and of promises 1 to 8, each under the sentence of the document that names it. */
final class SeaBoundsTest {
    private static final Kit KIT = new Kit("SeaBoundsTest");
    private static final String TWO = "sea 2 2 tides 1;";
    /** Six shores in a row, each throws south. */
    private static final String SIX = "sea 6 6 tides 6;" + shores(6);

    public static void main(String[] args) {
        newObject();
        feed();
        refusedFeed();
        seaTakesTheFirst();
        seaEndsWithin();
        seaStartsAnew();
        seaForgetsTheFormer();
        seaCountsLines();
        seaRefused();
        faults();
        cells();
        shores();
        shoresFull();
        currents();
        winds();
        longestText();
        shortestText();
        sides();
        cellsInOrder();
        numbersOfCells();
        shoresToldAreSixAtMost();
        oneOnACell();
        walks();
        directions();
        laterCurrents();
        moons();
        corks();
        laterOnesStrike();
        whatBeginsAToken();
        tokensGoOn();
        digits();
        theEnd();
        seaFirstAndOnce();
        otherLaw();
        leastKind();
        firstAlongTheText();
        nested();
        lawsMustBeWhole();
        KIT.covers(0, 8);
        KIT.end();
    }

    private static String shores(int n) {
        StringBuilder s = new StringBuilder();
        for (int i = 0; i < n; i++) {
            s.append("shore ").append(i).append(" 0 throws south walks 0;");
        }
        return s.toString();
    }

    private static void fault(String text, int kind, int place) {
        BottlePost x = new BottlePost();
        KIT.due("sea of " + text, Kit.told(x, text), -30 - kind);
        KIT.due("fault(0) of " + text, x.fault(0), kind);
        KIT.due("fault(1) of " + text, x.fault(1), place);
    }

    private static void reads(String text, int lines) {
        BottlePost x = new BottlePost();
        KIT.due("sea of " + text, Kit.told(x, text), lines);
        KIT.due("fault(0) of " + text, x.fault(0), 0);
        KIT.due("fault(1) of " + text, x.fault(1), -1);
    }

    /** An N between two texts may be from least to most, and nothing beside. */
    private static void bounds(String before, int least, int most, String behind) {
        BottlePost x = new BottlePost();
        KIT.due(before + least + behind, Kit.told(x, before + least + behind) > 0 ? 1 : 0, 1);
        KIT.due(before + most + behind, Kit.told(x, before + most + behind) > 0 ? 1 : 0, 1);
        if (least > 0) {
            fault(before + (least - 1) + behind, 3, before.length());
            fault(before + 0 + behind, 3, before.length());
        }
        fault(before + (most + 1) + behind, 3, before.length());
        fault(before + 999 + behind, 3, before.length());
    }

    private static void newObject() {
        KIT.says(1, "No CELLS, no SHORES, 1 PHASE.");
        BottlePost x = new BottlePost();
        KIT.each("cell", -2, x::cell, Kit.LEAST, -1, 0, 1, 35, Kit.MOST);
        KIT.each("shore of 0", -2, what -> x.shore(0, what), 0, 1, 2, 3, 4, 5);
        KIT.each("current of 0", -2, phase -> x.current(0, phase), 0, 1);
        KIT.each("count", 0, x::count, 0, 1, 3, 4, 5, 6, 7, 8, 9, 10, 11, 12, 13);
        KIT.due("count(2)", x.count(2), 1);
        KIT.due("reachers(0)", x.reachers(0), -2);
        KIT.due("keepers(30)", x.keepers(30), 0);
        KIT.due("calm(60)", x.calm(60), 0);
        KIT.due("deadly(false)", x.deadly(false), 0);
        KIT.due("net(60, 0)", x.net(60, 0), -1);
        KIT.due("eddy(0, true)", x.eddy(0, true), -2);
        KIT.due("catches(0, 1)", x.catches(0, 1), -2);
        KIT.due("storm(0, 1)", x.storm(0, 1), -2);
        // Its one phase goes by tide by tide, and is always the same.
        KIT.due("tides(99)", x.tides(99), 0);
        KIT.due("count(7)", x.count(7), 99);
        KIT.due("count(8)", x.count(8), 0);
        KIT.due("undo(1)", x.undo(1), 0);
        KIT.says(0, "`NONE = -1`: There is none; to whom it may.");
        KIT.due("NONE", BottlePost.NONE, -1);
    }

    private static void feed() {
        KIT.says(2, "Twenty bytes come behind those on THE TAPE, the highest of each int first: how many it has.");
        BottlePost x = new BottlePost();
        KIT.due("feed", x.feed(0x73656120, 0x33203220, 0x74696465, 0x7320313b, 0x726f636b), 20);
        KIT.due("feed", x.feed(0x20302030, 0x3b000000, -1, -1, -1), 40);
        KIT.due("count(11)", x.count(11), 40);
        KIT.due("sea(25)", x.sea(25), 2);
        KIT.due("cell(0)", x.cell(0), 1);
        KIT.due("count(0)", x.count(0), 3);
        // A byte of each place of the twenty, above 127 too: what stands ahead of it are blanks.
        for (int i = 0; i < 20; i++) {
            int[] five = {0x20202020, 0x20202020, 0x20202020, 0x20202020, 0x20202020};
            five[i / 4] |= 0x80 << 24 - i % 4 * 8;
            KIT.due("feed with byte " + i, x.feed(five[0], five[1], five[2], five[3], five[4]), 20);
            KIT.due("sea(20)", x.sea(20), -31);
            KIT.due("fault(1)", x.fault(1), i);
        }
    }

    private static void refusedFeed() {
        KIT.says(2, "-5: it would have more than 900.");
        String text = TWO + "cork 1;".repeat(124) + "cork 01;cork 99;";
        BottlePost x = new BottlePost();
        int[][] rows = Kit.twenties(Kit.bytes(text));
        KIT.due("twenties", rows.length, 45);
        for (int i = 0; i < 45; i++) {
            int[] r = rows[i];
            KIT.due("feed " + i, x.feed(r[0], r[1], r[2], r[3], r[4]), 20 * i + 20);
        }
        KIT.due("a 46th", x.feed(-1, -1, -1, -1, -1), -5);
        KIT.due("a 47th", x.feed(0, 0, 0, 0, 0), -5);
        KIT.due("count(11)", x.count(11), 900);
        KIT.due("the tape stayed", x.sea(900), 127);
        KIT.due("feed", x.feed(0, 0, 0, 0, 0), 20);
    }

    private static void seaTakesTheFirst() {
        KIT.says(3, "The first n bytes of THE TAPE (which is empty then) are THE SEA");
        BottlePost x = new BottlePost();
        Kit.taped(x, TWO + "rock 0 0;");
        KIT.due("sea(16) of 40", x.sea(16), 1);
        KIT.due("count(11)", x.count(11), 0);
        KIT.due("cell(0)", x.cell(0), 0);
        KIT.due("sea(1)", x.sea(1), -3);
        Kit.taped(x, TWO + "rock 0 0;");
        KIT.due("sea(0) of 40", x.sea(0), -32);
        KIT.due("count(11)", x.count(11), 0);
        KIT.due("sea(0) of none", x.sea(0), -32);
        KIT.due("fault(1)", x.fault(1), 0);
        KIT.due("feed", x.feed(0, 0, 0, 0, 0), 20);
    }

    private static void seaEndsWithin() {
        KIT.says(3, "The first n bytes of THE TAPE");
        // The text ends there, though a word or an N goes on behind it on the tape.
        String tape = TWO + "rock 0 0;cork 1234;";
        int[][] due = {{15, 2, 15}, {16, 0, -1}, {17, 2, 16}, {19, 2, 16}, {20, 2, 20}, {22, 2, 22}, {24, 2, 24}, {25, 0, -1},
            {31, 2, 31}, {32, 2, 32}, {33, 3, 30}, {34, 1, 30}, {35, 1, 30}};
        for (int[] d : due) {
            BottlePost x = new BottlePost();
            Kit.taped(x, tape);
            KIT.due("sea(" + d[0] + ")", x.sea(d[0]), d[1] == 0 ? d[0] / 9 : -30 - d[1]);
            KIT.due("fault(1) of " + d[0], x.fault(1), d[2]);
        }
        BottlePost x = new BottlePost();
        Kit.taped(x, TWO + "rocky 0 0;");
        KIT.due("sea(20), a whole word", x.sea(20), -32);
        KIT.due("fault(1)", x.fault(1), 20);
    }

    private static void seaForgetsTheFormer() {
        KIT.says(3, "are THE SEA, no BOTTLES, TIDE 0");
        String lane = "sea 3 2 tides 1;shore 0 0 throws east walks 0;shore 2 0 throws south walks 0;"
            + "shore 0 1 throws east walks 0;";
        BottlePost x = Kit.sea(lane + "rock 2 1;current 1 0 2;moon 5 springs 5;cork 1;wind : 2;keeps : 1 = 1;");
        KIT.due("best(0, 1, 0)", x.best(0, 1, 0), 1);
        KIT.due("keeper(0, 2, true, 0)", x.keeper(0, 2, true, 0), 1);
        KIT.due("wind(1, 0)", x.wind(1, 0), 2);
        // Of rocks, currents, moon, cork and laws none is left, nor what was known by them.
        KIT.due("sea", Kit.told(x, lane), 4);
        KIT.due("count(13)", x.count(13), 0);
        KIT.due("cell(5)", x.cell(5), 0);
        KIT.due("current(1, 0)", x.current(1, 0), 0);
        KIT.due("wind(1, 0)", x.wind(1, 0), 0);
        KIT.due("best(0, 1, 0)", x.best(0, 1, 0), -1);
        KIT.due("keeper(0, 2, true, 0)", x.keeper(0, 2, true, 0), -1);
        x.throwsIt(0, -1, false);
        x.tides(1);
        KIT.due("bottle(0, 0)", x.bottle(0, 0), 0);
        KIT.due("bottle(0, 1)", x.bottle(0, 1), 1);
        KIT.due("count(9)", x.count(9), 0);
        KIT.due("sea", Kit.told(x, lane + "current 1 0 2;current 1 1 1;"), 6);
        KIT.due("no law keeps it", x.keeper(0, 2, true, 0), -1);
        KIT.due("it is passed on once", x.best(0, 1, 0), 1);
        // Law upon law: the wind of the latest sea, wherever it was asked for before.
        for (int way = 1; way <= 4; way++) {
            KIT.due("sea", Kit.told(x, lane + "wind : " + way + ";"), 5);
            KIT.due("wind(1, 0) of " + way, x.wind(1, 0), way);
        }
        KIT.due("sea", Kit.told(x, lane + "current 1 0 2;current 1 1 1;"), 6);
        // A fault on the way leaves as little.
        Kit.told(x, lane + "rock 2 1;current 1 0 4;moon 5 springs 5;cork 1;wind : 3;keeps : 1 = 1;!");
        KIT.due("best(0, 1, 0)", x.best(0, 1, 0), 1);
        KIT.due("sea", Kit.told(x, lane), 4);
        KIT.due("current(1, 0)", x.current(1, 0), 0);
        KIT.due("wind(1, 0)", x.wind(1, 0), 0);
        KIT.due("count(13)", x.count(13), 0);
    }

    private static void seaStartsAnew() {
        KIT.says(3, "no BOTTLES, TIDE 0, nothing can be UNDONE");
        BottlePost x = Kit.sea(SIX);
        for (int b = 0; b < 8; b++) {
            x.throwsIt(b % 6, -1, true);
        }
        x.tides(99);
        KIT.due("sea", Kit.told(x, SIX), 7);
        KIT.each("count", 0, x::count, 4, 5, 6, 7, 8, 9, 10, 11);
        KIT.due("undo(1)", x.undo(1), -3);
        KIT.due("bottle(0, 0)", x.bottle(0, 0), -8);
        KIT.due("the first anew", x.throwsIt(5, -1, true), 0);
    }

    private static void seaCountsLines() {
        KIT.says(3, "how many LINES (sea, too; all stays with a FAULT)");
        BottlePost x = new BottlePost();
        KIT.due("one line", Kit.told(x, TWO), 1);
        KIT.due("as many as a text holds", Kit.told(x, TWO + "cork 1;".repeat(126)), 127);
        KIT.due("count(12)", x.count(12), 127);
        KIT.due("sea", Kit.told(x, "sea 3 2 tides 2;shore 0 0 throws east walks 0;cork 9;"), 3);
        x.throwsIt(0, -1, true);
        x.tides(3);
        // As far as one can come with a text, and then a fault: at its end, and in its first line.
        for (String text : new String[] {"sea 6 6 tides 6;rock 1 0;wind : 1;cork 1;moon 2 springs 2;oops", "sea 7", ""}) {
            KIT.due("sea of " + text, Kit.told(x, text) < -30 ? 1 : 0, 1);
            int[] due = {3, 2, 2, 1, 1, 1, 0, 3, 1, 0, 2, 0, 3, 0};
            for (int what = 0; what < due.length; what++) {
                KIT.due("count(" + what + ")", x.count(what), due[what]);
            }
            KIT.due("cell(1)", x.cell(1), 0);
            KIT.due("wind(1, 0)", x.wind(1, 0), 0);
            KIT.due("fate(0, 1)", x.fate(0, 1), 6);
            KIT.due("bottle(0, 5)", x.bottle(0, 5), 3);
        }
        KIT.due("undo(2)", x.undo(2), 0);
    }

    private static void seaRefused() {
        KIT.says(3, "-3: n is below 0 or above what there is (THE TAPE stays)");
        BottlePost x = new BottlePost();
        KIT.each("sea of an empty tape", -3, x::sea, Kit.LEAST, -1, 1, 900, Kit.MOST);
        Kit.taped(x, TWO);
        KIT.each("sea of 20 bytes", -3, x::sea, Kit.LEAST, -1, 21, 900, Kit.MOST);
        KIT.due("count(11)", x.count(11), 20);
        KIT.due("sea(20)", x.sea(20), 1);
        KIT.says(3, "-30 less the FAULT.");
        KIT.due("a 1", Kit.told(x, "!"), -31);
        KIT.due("a 2", Kit.told(x, ";"), -32);
        KIT.due("a 3", Kit.told(x, "sea 0"), -33);
        KIT.due("a 4", Kit.told(x, SIX + "shore"), -34);
    }

    private static void faults() {
        KIT.says(4, "Of the latest sea() that was read, what 0: its FAULT (0), 1: its place (NONE). NONE for others.");
        BottlePost x = new BottlePost();
        KIT.due("none was read, 0", x.fault(0), 0);
        KIT.due("none was read, 1", x.fault(1), -1);
        Kit.told(x, "sea 2 9");
        KIT.due("fault(0)", x.fault(0), 3);
        KIT.due("fault(1)", x.fault(1), 6);
        KIT.each("fault", -1, x::fault, Kit.LEAST, -1, 2, 3, Kit.MOST);
        // One that can't be was not read.
        KIT.due("sea(1)", x.sea(1), -3);
        KIT.due("fault(0)", x.fault(0), 3);
        KIT.due("fault(1)", x.fault(1), 6);
        Kit.told(x, "");
        KIT.due("fault(0)", x.fault(0), 2);
        KIT.due("fault(1)", x.fault(1), 0);
        Kit.told(x, TWO);
        KIT.due("fault(0)", x.fault(0), 0);
        KIT.due("fault(1)", x.fault(1), -1);
        KIT.each("fault", -1, x::fault, Kit.LEAST, -1, 2, 3, Kit.MOST);
    }

    private static void cells() {
        KIT.says(5, "What a CELL is: 0 open sea, 1 a rock, 10 and a SHORE. -2.");
        BottlePost x = Kit.sea(SIX + "rock 5 5;");
        for (int k = 0; k < 36; k++) {
            KIT.due("cell(" + k + ")", x.cell(k), k < 6 ? 10 + k : k == 35 ? 1 : 0);
        }
        KIT.each("cell", -2, x::cell, Kit.LEAST, -1, 36, Kit.MOST);
        Kit.told(x, TWO);
        KIT.each("cell", 0, x::cell, 0, 1, 2, 3);
        KIT.each("cell", -2, x::cell, -1, 4, 5, 35);
    }

    private static void shores() {
        KIT.says(6, "3: the CELL it throws to (NONE: it isn't open sea)");
        String[] ways = {"north", "east", "south", "west"};
        int[] corner = {0, 2, 8, 6};
        for (int i = 0; i < 4; i++) {
            // From each corner one way, and the way behind it: over the edge, or along it.
            String at = corner[i] % 3 + " " + corner[i] / 3;
            String rest = " walks 0;";
            BottlePost x = Kit.sea("sea 3 3 tides 1;shore " + at + " throws " + ways[i] + rest);
            KIT.due("shore(0, 3) from " + at + " " + ways[i], x.shore(0, 3), -1);
            x = Kit.sea("sea 3 3 tides 1;shore " + at + " throws " + ways[(i + 1) % 4] + rest);
            KIT.due("shore(0, 3) from " + at + " " + ways[(i + 1) % 4], x.shore(0, 3), new int[] {1, 5, 7, 3}[i]);
            KIT.due("shore(0, 1)", x.shore(0, 1), (i + 1) % 4 + 1);
            x = Kit.sea("sea 3 3 tides 1;shore 1 1 throws " + ways[i] + rest);
            KIT.due("shore(0, 3) from the middle " + ways[i], x.shore(0, 3), new int[] {1, 5, 7, 3}[i]);
            // A rock told behind the shore, a shore told behind it, and both ahead.
            String rock = "rock " + new String[] {"1 0;", "2 1;", "1 2;", "0 1;"}[i];
            x = Kit.sea("sea 3 3 tides 1;shore 1 1 throws " + ways[i] + rest + rock);
            KIT.due("onto a rock", x.shore(0, 3), -1);
            x = Kit.sea("sea 3 3 tides 1;" + rock + "shore 1 1 throws " + ways[i] + rest);
            KIT.due("onto a rock", x.shore(0, 3), -1);
        }
        BottlePost x = Kit.sea("sea 3 3 tides 1;shore 0 0 throws east walks 0;shore 1 0 throws west walks 0;");
        KIT.due("onto a shore told later", x.shore(0, 3), -1);
        KIT.due("onto a shore", x.shore(1, 3), -1);
    }

    private static void shoresFull() {
        KIT.says(6, "4: BOTTLES that LIE there, as bits, 5: BOTTLES it KEPT, as bits. -2.");
        BottlePost x = Kit.sea("sea 3 2 tides 2;shore 0 0 throws east walks 1;shore 2 0 throws west walks 1;"
            + "current 1 0 2 2;");
        for (int b = 0; b < 8; b++) {
            x.throwsIt(0, b == 7 ? 1 : -1, true);
        }
        KIT.due("none lies", x.shore(1, 4), 0);
        x.tides(1);
        KIT.due("all lie", x.shore(1, 4), 255);
        KIT.due("none is kept", x.shore(1, 5), 0);
        KIT.due("none at the other", x.shore(0, 4), 0);
        x.tides(1);
        KIT.due("none lies", x.shore(1, 4), 0);
        KIT.due("all are kept", x.shore(1, 5), 255);
        KIT.due("none by the other", x.shore(0, 5), 0);
        for (int s : new int[] {Kit.LEAST, -1, 2, 5, 6, Kit.MOST}) {
            KIT.each("shore of " + s, -2, what -> x.shore(s, what), -1, 0, 1, 2, 3, 4, 5, 6);
        }
        KIT.each("shore of 0", -2, what -> x.shore(0, what), Kit.LEAST, -1, 6, 7, 10, Kit.MOST);
        KIT.says(6, "2: PHASES at which people walk, as bits");
        BottlePost y = Kit.sea("sea 2 2 tides 6;shore 0 0 throws east walks 5;shore 1 1 throws north walks 5 4 3 2 1 0;");
        KIT.due("one", y.shore(0, 2), 32);
        KIT.due("all", y.shore(1, 2), 63);
    }

    private static void currents() {
        KIT.says(7, "The current of a CELL at a PHASE. -2: the CELL, the PHASE.");
        BottlePost x = Kit.sea("sea 6 6 tides 6;current 0 0 4 0 0 0 0 3;current 5 5 0 1 2 3 4 1;");
        int[] last = {0, 1, 2, 3, 4, 1};
        for (int phase = 0; phase < 6; phase++) {
            KIT.due("current(0, " + phase + ")", x.current(0, phase), phase == 0 ? 4 : phase == 5 ? 3 : 0);
            KIT.due("current(35, " + phase + ")", x.current(35, phase), last[phase]);
            KIT.due("current(1, " + phase + ")", x.current(1, phase), 0);
        }
        KIT.each("current of a cell at 0", -2, k -> x.current(k, 0), Kit.LEAST, -1, 36, Kit.MOST);
        KIT.each("current of 35 at a phase", -2, phase -> x.current(35, phase), Kit.LEAST, -1, 6, Kit.MOST);
        BottlePost y = Kit.sea(TWO + "current 1 1 4;");
        KIT.due("current(3, 0)", y.current(3, 0), 4);
        KIT.each("current of 3 at a phase", -2, phase -> y.current(3, phase), -1, 1, 5);
        KIT.each("current of a cell at 0", -2, k -> y.current(k, 0), -1, 4, 35);
    }

    private static void winds() {
        KIT.says(8, "The wind of a CELL in n TIDES (0 to 999). -2; -3.");
        BottlePost x = Kit.sea("sea 6 6 tides 6;moon 30 springs 0;wind : x + y + tide + moon;rock 5 5;");
        KIT.due("wind(0, 0)", x.wind(0, 0), 0);
        KIT.due("wind(0, 1)", x.wind(0, 1), 2);
        KIT.due("wind(35, 0) of a rock", x.wind(35, 0), 0);
        KIT.due("wind(35, 999)", x.wind(35, 999), (10 + 3 + 9) % 5);
        KIT.each("wind of 0", -3, n -> x.wind(0, n), Kit.LEAST, -1, 1000, Kit.MOST);
        KIT.each("wind of no cell", -2, k -> x.wind(k, 0), Kit.LEAST, -1, 36, Kit.MOST);
        KIT.each("wind of no cell, far out", -2, k -> x.wind(k, 1000), -1, 36);
        x.tides(5);
        KIT.due("wind(0, 0) at phase 5, moon 5", x.wind(0, 0), 0);
        KIT.due("wind(0, 1) at phase 0, moon 6", x.wind(0, 1), 1);
        x.tides(24);
        KIT.due("wind(0, 0) at phase 5, moon 29", x.wind(0, 0), 4);
        KIT.due("wind(0, 1) at phase 0, moon 0", x.wind(0, 1), 0);
        KIT.says(0, "the direction that the law tells modulo 5 (0 to 4, as directions; x, y, tide: PHASE, moon: MOON; without it: 0)");
        String[] sums = {"0", "4", "5", "6", "999", "0 - 1", "0 - 5", "0 - 6", "1 - 999", "999 * 999 * 2", "0 - 999 * 999 * 2",
            "moon", "tide", "x * y", "2 * x + y", "x + 3 * y"};
        int[] due = {0, 4, 0, 1, 4, 4, 0, 4, 2, 0, 0, 0, 0, 1, 3, 4};
        for (int i = 0; i < sums.length; i++) {
            KIT.due("wind(3, 999) by " + sums[i], Kit.sea(TWO + "wind : " + sums[i] + ";").wind(3, 999), due[i]);
        }
        KIT.due("wind(3, 999) by no law", Kit.sea(TWO).wind(3, 999), 0);
        // From 0 on, x to the east and y to the south.
        BottlePost z = Kit.sea("sea 3 2 tides 1;wind : x + 2 * y;");
        int[] cells = {0, 1, 2, 2, 3, 4};
        for (int k = 0; k < 6; k++) {
            KIT.due("wind(" + k + ", 0)", z.wind(k, 0), cells[k]);
        }
    }

    private static void longestText() {
        KIT.says(0, "THE SEA is a TEXT of at most 900 bytes (without one: no CELLS, no SHORES, 1 PHASE)");
        String text = TWO + "cork 1;".repeat(124) + "cork 01;cork 99;";
        KIT.due("length", text.length(), 900);
        reads(text, 127);
        fault(text.substring(0, 899), 2, 899);
        fault(text.substring(0, 899) + "!", 1, 899);
        reads(TWO + " ".repeat(884), 1);
        reads("\n".repeat(884) + TWO, 1);
        // Laws as long as they can be, of every sign that a law can be long by.
        String sum = "1" + "+1".repeat(438);
        KIT.due("wind(0, 0)", Kit.sea(TWO + "wind:" + sum + ";").wind(0, 0), 439 % 5);
        sum = "1" + "-1".repeat(438);
        KIT.due("wind(0, 0)", Kit.sea(TWO + "wind:" + sum + ";").wind(0, 0), 3);
        sum = "2" + "*2".repeat(438);
        KIT.due("wind(0, 0)", Kit.sea(TWO + "wind:" + sum + ";").wind(0, 0), 0);
        reads(TWO + "keeps:1=1" + " or 1<1".repeat(124) + ";", 2);
        reads(TWO + "keeps:1=1" + " and 1<1".repeat(109) + ";", 2);
    }

    private static void shortestText() {
        KIT.says(0, "sea N N tides N ; { LINE ; }");
        reads("sea 2 2tides 1;", 1);
        reads("sea2 2tides1;", 1);
        fault("", 2, 0);
        fault(" ", 2, 1);
        fault("\n\n ", 2, 3);
        fault(TWO + ";", 2, 16);
        fault(TWO + "rock 0 0;;", 2, 25);
        fault("sea 2 2 tides 1 rock 0 0;", 2, 16);
        fault(TWO + "rock 0 0 rock 1 1;", 2, 25);
    }

    private static void sides() {
        KIT.says(0, "sea: WIDE, HIGH, 2 to 6 each, PHASES, 1 to 6");
        bounds("sea ", 2, 6, " 2 tides 1;");
        bounds("sea 2 ", 2, 6, " tides 1;");
        bounds("sea 2 2 tides ", 1, 6, ";");
        BottlePost x = Kit.sea("sea 2 6 tides 6;");
        KIT.due("count(0)", x.count(0), 2);
        KIT.due("count(1)", x.count(1), 6);
        KIT.due("count(2)", x.count(2), 6);
    }

    private static void cellsInOrder() {
        KIT.says(0, "CELLS by WIDE times y, and x, from 0 on (y grows to the south), open sea at first.");
        for (int wide = 2; wide <= 6; wide++) {
            for (int high = 2; high <= 6; high++) {
                BottlePost x = Kit.sea("sea " + wide + " " + high + " tides 1;rock 0 0;rock " + (wide - 1)
                    + " 0;rock 0 1;shore " + (wide - 1) + " " + (high - 1) + " throws north walks 0;");
                int last = wide * high - 1;
                for (int k = 0; k <= last; k++) {
                    int due = k == last ? 10 : k == 0 || k == wide - 1 || k == wide ? 1 : 0;
                    KIT.due("cell(" + k + ") of " + wide + " by " + high, x.cell(k), due);
                }
                KIT.due("cell behind the last", x.cell(last + 1), -2);
                // The cell to the north of the last one, but a rock if there are two rows and two columns.
                KIT.due("shore(0, 3)", x.shore(0, 3), high == 2 ? -1 : last - wide);
            }
        }
    }

    private static void numbersOfCells() {
        KIT.says(0, "rock: x, y. shore: x, y, the way it throws, PHASES at which people walk there");
        bounds("sea 5 4 tides 1;rock ", 0, 4, " 0;");
        bounds("sea 5 4 tides 1;rock 0 ", 0, 3, ";");
        bounds("sea 5 4 tides 1;shore ", 0, 4, " 0 throws east walks 0;");
        bounds("sea 5 4 tides 1;shore 0 ", 0, 3, " throws east walks 0;");
        bounds("sea 5 4 tides 1;current ", 0, 4, " 0 1;");
        bounds("sea 5 4 tides 1;current 0 ", 0, 3, " 1;");
        bounds("sea 6 2 tides 1;rock ", 0, 5, " 0;");
        bounds("sea 6 2 tides 1;rock 5 ", 0, 1, ";");
        fault("sea 5 4 tides 1;shore 0 0 throws up walks 0;", 2, 33);
        fault("sea 5 4 tides 1;shore 0 0 throws walks 0;", 2, 33);
        fault("sea 5 4 tides 1;shore 0 0 throws east east walks 0;", 2, 38);
    }

    private static void shoresToldAreSixAtMost() {
        KIT.says(0, "numbered from 0 on, 6 at most.");
        for (int n = 0; n <= 6; n++) {
            BottlePost x = Kit.sea("sea 6 2 tides 1;" + shores(n));
            KIT.due("count(3) of " + n, x.count(3), n);
            KIT.due("shore(" + (n - 1) + ", 0)", x.shore(n - 1, 0), n == 0 ? -2 : n - 1);
            KIT.due("shore(" + n + ", 0)", x.shore(n, 0), -2);
        }
        KIT.says(0, "4 the first TOKEN of a 7th shore; a seventh of not [ (.");
        fault(SIX + "shore 0 1 throws south walks 0;", 4, SIX.length());
        fault(SIX + "rock 0 1;\n shore 0 0 throws", 4, SIX.length() + 11);
        fault(SIX + "shore", 4, SIX.length());
        reads(SIX + "rock 0 1;", 8);
    }

    private static void oneOnACell() {
        KIT.says(0, "At most one of rocks, shores on a CELL.");
        KIT.says(0, "3 an N out of its bounds (the y of a CELL that is a rock, a shore).");
        String rock = "rock 1 1;";
        String shore = "shore 1 1 throws west walks 0;";
        for (String first : new String[] {rock, shore}) {
            fault(TWO + first + rock, 3, 16 + first.length() + 7);
            fault(TWO + first + shore, 3, 16 + first.length() + 8);
            fault(TWO + first + "rock 1 1", 3, 16 + first.length() + 7);
            // The x of such a cell is fine, as are cells beside it.
            reads(TWO + first + "rock 1 0;rock 0 1;shore 0 0 throws east walks 0;", 5);
            // At its x, if that is out of bounds.
            fault(TWO + first + "rock 2 1;", 3, 16 + first.length() + 5);
        }
        reads("sea 2 2 tides 1;rock 0 0;rock 0 1;rock 1 0;rock 1 1;", 5);
    }

    private static void walks() {
        KIT.says(0, "shore N N throws DIR walks N { N }");
        bounds("sea 2 2 tides 6;shore 0 0 throws east walks ", 0, 5, ";");
        bounds("sea 2 2 tides 6;shore 0 0 throws east walks 5 0 5 ", 0, 5, ";");
        bounds("sea 2 2 tides 1;shore 0 0 throws east walks ", 0, 0, ";");
        fault("sea 2 2 tides 6;shore 0 0 throws east walks;", 2, 43);
        BottlePost x = Kit.sea("sea 2 2 tides 3;shore 0 0 throws east walks" + " 2".repeat(400) + ";");
        KIT.due("shore(0, 2)", x.shore(0, 2), 4);
    }

    private static void directions() {
        KIT.says(0, "fewer, more directions than PHASES");
        for (int phases = 1; phases <= 6; phases++) {
            String line = "sea 2 2 tides " + phases + ";current 1 1" + " 4".repeat(phases - 1);
            fault(line + ";", 2, line.length());
            reads(line + " 4;", 2);
            fault(line + " 4 4;", 2, line.length() + 3);
            fault(line + " 4 5;", 2, line.length() + 3);
        }
        KIT.says(0, "for each PHASE a direction (0 none, 1 north, 2 east, 3 south, 4 west; 0 at first; a later one strikes)");
        bounds("sea 2 2 tides 3;current 1 1 ", 0, 4, " 0 0;");
        bounds("sea 2 2 tides 3;current 1 1 0 0 ", 0, 4, ";");
    }

    private static void laterCurrents() {
        KIT.says(0, "0 at first; a later one strikes");
        BottlePost x = Kit.sea("sea 2 2 tides 2;current 0 0 1 2;current 1 0 3 3;current 0 0 0 4;");
        int[] due = {0, 4, 3, 3, 0, 0, 0, 0};
        for (int i = 0; i < due.length; i++) {
            KIT.due("current(" + i / 2 + ", " + i % 2 + ")", x.current(i / 2, i % 2), due[i]);
        }
    }

    private static void moons() {
        KIT.says(0, "moon: 2 to 30 TIDES, of which the first so many (0 to as many) are springs (none without).");
        bounds(TWO + "moon ", 2, 30, " springs 0;");
        bounds(TWO + "moon 2 springs ", 0, 2, ";");
        bounds(TWO + "moon 30 springs ", 0, 30, ";");
        String lane = "sea 6 2 tides 1;shore 0 0 throws east walks 0;current 1 0 2;current 2 0 2;current 3 0 2;"
            + "current 4 0 2;";
        String[] moons = {"", "moon 2 springs 0;", "moon 2 springs 1;", "moon 2 springs 2;", "moon 30 springs 1;"};
        int[][] due = {{2, 3, 4}, {2, 3, 4}, {3, 4, 5}, {3, 5, 5}, {3, 4, 5}};
        for (int i = 0; i < moons.length; i++) {
            BottlePost x = Kit.sea(lane + moons[i]);
            x.throwsIt(0, -1, true);
            for (int tide = 0; tide < 3; tide++) {
                x.tides(1);
                KIT.due("after " + (tide + 1) + " with " + moons[i], x.bottle(0, 1), due[i][tide]);
            }
        }
    }

    private static void corks() {
        KIT.says(0, "cork: 1 to 99 (none without).");
        bounds(TWO + "cork ", 1, 99, ";");
        String lane = "sea 3 2 tides 1;shore 0 0 throws east walks 0;";
        int[] sinks = {1, 2, 98, 99};
        for (int cork : sinks) {
            BottlePost x = Kit.sea(lane + "cork " + cork + ";");
            x.throwsIt(0, -1, true);
            KIT.due("fate(0, 0) by cork " + cork, x.fate(0, 0), 4);
            KIT.due("fate(0, 1) by cork " + cork, x.fate(0, 1), cork);
        }
        BottlePost x = Kit.sea(lane);
        x.throwsIt(0, -1, true);
        for (int i = 0; i < 10; i++) {
            x.tides(99);
        }
        KIT.due("without a cork", x.bottle(0, 0), 0);
        KIT.due("its age", x.bottle(0, 5), 990);
    }

    private static void laterOnesStrike() {
        KIT.says(0, "Later ones of wind, keeps, moon, cork strike.");
        BottlePost x = Kit.sea("sea 3 2 tides 1;shore 0 0 throws east walks 0;shore 2 1 throws west walks 0;"
            + "moon 30 springs 30;moon 2 springs 0;wind : 1;wind : 4;keeps : 1 = 1;keeps : age > 2;cork 1;cork 9;");
        KIT.due("count(12)", x.count(12), 11);
        KIT.due("wind(0, 0)", x.wind(0, 0), 4);
        x.throwsIt(0, 1, false);
        x.throwsIt(0, 1, true);
        KIT.due("kept by the later law", x.fate(0, 1), 3);
        KIT.due("sunk by the later cork", x.fate(1, 1), 9);
        x.tides(3);
        KIT.due("by the later moon", x.count(9), 1);
    }

    private static void whatBeginsAToken() {
        KIT.says(0, "words (small letters), N (1 to 3 digits), the signs ; : + - * ( ) [ ] = < >.");
        KIT.says(0, "1 no TOKEN begins so (4 digits and more: at their first).");
        for (int sign = 0; sign < 256; sign++) {
            String text = TWO + (char) sign;
            if (sign == 10 || sign == 32) {
                reads(text, 1);
            } else {
                boolean begins = sign >= 'a' && sign <= 'z' || sign >= '0' && sign <= '9'
                    || ";:+-*()[]=<>".indexOf(sign) >= 0;
                fault(text, begins ? 2 : 1, 16);
                // Within a line, too, where none but one sign can stand.
                if (sign == ';') {
                    reads(TWO + "rock 0 0 ;", 2);
                } else {
                    fault(TWO + "rock 0 0 " + (char) sign, begins ? 2 : 1, 25);
                }
            }
        }
    }

    private static void tokensGoOn() {
        KIT.says(0, "TOKENS, as long as they go on, between them blanks (10, 32)");
        reads("sea2 2tides1;rock0 0;moon2springs0;cork9;wind:x*y+1;keeps:not[from=1]or age<2;", 6);
        reads("\n\n  sea \n2\n2 tides\n1\n;\n\nrock\n0\n0\n;\n", 2);
        // Without the blank they are one.
        fault("sea 22 tides 1;", 3, 4);
        fault("sea22 tides 1;", 3, 3);
        fault(TWO + "rock 00;", 2, 23);
        fault(TWO + "rockrock 0 0;", 2, 16);
        fault(TWO + "rocka 0 0;", 2, 16);
        fault(TWO + "rockz 0 0;", 2, 16);
        fault(TWO + "zrock 0 0;", 2, 16);
        fault(TWO + "keeps:notfrom=1;", 2, 22);
        fault(TWO + "keeps:1=1or1=1and 1=1 orage=1;", 2, 38);
        // With one they are two.
        fault("se a 2 2 tides 1;", 2, 0);
        fault(TWO + "cork 1 2;", 2, 23);
        fault(TWO + "ro\nck 0 0;", 2, 16);
    }

    private static void digits() {
        KIT.says(0, "(4 digits and more: at their first)");
        fault(TWO + "cork 0001;", 1, 21);
        fault(TWO + "cork 1234567890123456789012345678901234567890;", 1, 21);
        fault("sea 0002 2 tides 1;", 1, 4);
        fault(TWO + "wind : 1 + 1000;", 1, 27);
        fault(TWO + "wind : 0000;", 1, 23);
        fault(TWO + "1000", 1, 16);
        KIT.says(0, "N (1 to 3 digits)");
        reads(TWO + "cork 1;cork 01;cork 001;cork 099;", 5);
        reads("sea 002 02 tides 001;", 1);
        KIT.due("wind(0, 0) by 999", Kit.sea(TWO + "wind : 999;").wind(0, 0), 4);
        KIT.due("wind(0, 0) by 003", Kit.sea(TWO + "wind : 003;").wind(0, 0), 3);
    }

    private static void theEnd() {
        KIT.says(0, "2 it can't stand there (the end: the text's length;");
        String text = "sea 3 3 tides 2;rock 0 0;shore 1 0 throws east walks 0 1;current 2 0 1 4;moon 9 springs 3;\ncork 5; "
            + "wind : x * ( y + 2 ) - moon;keeps : not [ from = 1 or passed > 2 ] and finder < heavy;";
        int lines = 0;
        boolean open = true;
        for (int n = 0; n <= text.length(); n++) {
            // Cut off behind n signs: a word that goes on is none that could stand there, all else lacks something.
            char last = n == 0 ? ' ' : text.charAt(n - 1);
            if (last == ';') {
                lines++;
            }
            open = last == ';' ? false : open || last != ' ' && last != '\n';
            int start = n;
            while (start > 0 && n < text.length() && isLetter(last) && isLetter(text.charAt(n))
                && isLetter(text.charAt(start - 1))) {
                start--;
            }
            if (open) {
                fault(text.substring(0, n), 2, start);
            } else {
                reads(text.substring(0, n), lines);
            }
        }
        KIT.due("lines", lines, 8);
        // Blanks behind: the end is behind these.
        fault(TWO + "rock 0 0  \n", 2, 27);
    }

    private static boolean isLetter(char sign) {
        return sign >= 'a' && sign <= 'z';
    }

    private static void seaFirstAndOnce() {
        KIT.says(0, "sea must be told first, and once");
        String[] others = {"rock 0 0;", "shore 0 0 throws east walks 0;", "current 0 0 1;", "wind : 1;", "keeps : 1 = 1;",
            "moon 2 springs 0;", "cork 1;"};
        for (String line : others) {
            fault(line, 2, 0);
            fault(line + TWO, 2, 0);
            fault(TWO + line + TWO, 2, 16 + line.length());
            reads(TWO + line, 2);
        }
        fault(TWO + TWO, 2, 16);
    }

    private static void otherLaw() {
        KIT.says(0, "a word of the other law");
        for (String word : new String[] {"from", "to", "finder", "age", "passed", "heavy"}) {
            fault(TWO + "wind : " + word + ";", 2, 23);
            fault(TWO + "wind : (1 + " + word + ");", 2, 28);
            reads(TWO + "keeps : (1 + " + word + ") = " + word + ";", 2);
        }
        for (String word : new String[] {"x", "y", "moon"}) {
            fault(TWO + "keeps : " + word + " = 1;", 2, 24);
            fault(TWO + "keeps : 1 = 1 * " + word + ";", 2, 32);
            reads(TWO + "wind : (1 + " + word + ") * " + word + ";", 2);
        }
        // Tide is a word of both.
        reads(TWO + "wind : tide;keeps : tide = tide;", 3);
        for (String word : new String[] {"not", "or", "and", "[", "=", "<", ">", "tides", "sea", "none"}) {
            fault(TWO + "wind : " + word, 2, 23);
        }
    }

    private static void leastKind() {
        KIT.says(0, "FAULTS, the first along the text, of one TOKEN the least kind");
        // Four digits are none, wherever they stand, and however far out of bounds they were.
        fault("1000", 1, 0);
        fault("sea 1000", 1, 4);
        fault(TWO + "rock 0 0 1000", 1, 25);
        // It can't stand there, and were out of bounds, too.
        fault(TWO + "rock 0 0 999", 2, 25);
        fault(TWO + "current 0 0 0 9", 2, 30);
        fault(TWO + "shore 9", 3, 22);
        fault("sea tides 9", 2, 4);
        // It can't stand there, and were one too many.
        String line = SIX.substring(0, SIX.length() - 1);
        fault(line + " shore", 2, line.length() + 1);
        fault(TWO + "wind : ((((((1 (", 2, 31);
        fault(TWO + "keeps : ((((((not", 2, 30);
        fault(TWO + "keeps : (((((([", 2, 30);
        fault(TWO + "keeps : [[[[[[1 not", 2, 32);
        fault(TWO + "wind : not", 2, 23);
    }

    private static void firstAlongTheText() {
        KIT.says(0, "FAULTS, the first along the text");
        fault("sea 9 ; ! 1000", 3, 4);
        fault("sea 2 ; ! 1000", 2, 6);
        fault("sea 2 ! ; 9", 1, 6);
        fault(SIX + "shore 9 9 ! throws", 4, SIX.length());
        fault(TWO + "rock 0 0;rock 0 0 !", 3, 32);
        fault(TWO + "wind : (((((((!", 4, 29);
        fault(TWO + "rock 5 9;", 3, 21);
    }

    private static void nested() {
        KIT.says(0, "At most six of not [ ( within one another.");
        // Each way to open six: a not, a [ or, from some place on, a ( alone.
        for (int way = 0; way < 64; way++) {
            for (int sums = 0; sums <= 6; sums++) {
                StringBuilder open = new StringBuilder();
                StringBuilder close = new StringBuilder();
                for (int i = 0; i < 6 - sums; i++) {
                    boolean not = (way >> i & 1) != 0;
                    open.append(not ? "not " : "[");
                    close.insert(0, not ? "" : "]");
                }
                String inner = "(".repeat(sums) + "1" + ")".repeat(sums);
                String text = TWO + "keeps : " + open;
                reads(text + inner + " = 1" + close + ";", 2);
                reads(text + "1 < " + inner + close + " and " + open + inner + " > 1" + close + ";", 2);
                int place = text.length() + sums;
                fault(text + "(".repeat(sums) + "(1", 4, place);
                if (sums == 0) {
                    fault(text + "not 1", 4, place);
                    fault(text + "[1", 4, place);
                    fault(text + "1 = (1", 4, place + 4);
                }
            }
        }
        reads(TWO + "wind : ((((((1))))))" + "*((((((1))))))".repeat(50) + ";", 2);
        fault(TWO + "wind : ((((((1)))))) + (((((((1", 4, 45);
        // A not ends with its unit, a [ with its ].
        reads(TWO + "keeps : not 1 = 1 and not not not not not not 1 = 1;", 2);
        fault(TWO + "keeps : not [1 = 1 and not not not not not 1 = 1];", 4, 55);
    }

    private static void lawsMustBeWhole() {
        KIT.says(0, "UNIT: not UNIT, [ TRUTH ], or SUM, one of = < >, SUM.");
        String keeps = TWO + "keeps : ";
        fault(keeps + "1 = 1 = 1;", 2, 30);
        fault(keeps + "1 = ;", 2, 28);
        fault(keeps + "= 1;", 2, 24);
        fault(keeps + "[ ];", 2, 26);
        fault(keeps + "[1 = 1;", 2, 30);
        fault(keeps + "1 = 1];", 2, 29);
        fault(keeps + "[1 = 1] = 1;", 2, 32);
        fault(keeps + "not;", 2, 27);
        fault(keeps + "1 = 1 and;", 2, 33);
        fault(keeps + "1 = 1 or;", 2, 32);
        fault(keeps + "or 1 = 1;", 2, 24);
        fault(keeps + "1 + 1;", 2, 29);
        fault(keeps + "1 = 1 not 1 = 1;", 2, 30);
        KIT.says(0, "SUM: TERM { + TERM | - TERM }; TERM: ATOM { * ATOM }; ATOM: N, ( SUM ), in wind x, y, tide, moon, in keeps from, to, finder, age, passed, heavy, tide.");
        String wind = TWO + "wind : ";
        fault(wind + ";", 2, 23);
        fault(wind + "();", 2, 24);
        fault(wind + "- 1;", 2, 23);
        fault(wind + "1 + - 1;", 2, 27);
        fault(wind + "1 * ;", 2, 27);
        fault(wind + "(1 + );", 2, 28);
        fault(wind + "1);", 2, 24);
        fault(wind + "1 1;", 2, 25);
        fault(wind + "x y;", 2, 25);
        fault(wind + "1: 2;", 2, 24);
        reads(wind + "1 * 2 + 3 - 4 * (5);", 2);
    }
}
