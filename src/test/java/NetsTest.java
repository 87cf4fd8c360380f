/** Promises 28 to 35: nets, calm and deadly cells, eddies; who threw what was seen. */
final class NetsTest {
    private static final Kit KIT = new Kit("NetsTest");
    /** A lane from shore 0 to shore 1, a rock below it. Cells 0 to 4, and 5 to 9 with the rock on 7. */
    private static final String LANE = "sea 5 2 tides 2;shore 0 0 throws east walks 0;shore 4 0 throws west walks 0 1;"
        + "rock 2 1;current 1 0 2 2;current 2 0 2 2;current 3 0 2 2;current 1 1 2 2;cork 9;";
    private static final String ROUND = "sea 3 3 tides 1;current 0 0 2;current 1 0 3;current 1 1 4;current 0 1 1;";

    public static void main(String[] args) {
        nets();
        whatLies();
        whatSinks();
        deadlyCells();
        eddies();
        seen();
        seenCodes();
        KIT.end();
    }

    private static void nets() {
        BottlePost x = Kit.sea(LANE);
        KIT.due("net(1, 0)", x.net(1, 0), 1);
        KIT.due("net(1, 1)", x.net(1, 1), 0);
        KIT.due("calm(1)", x.calm(1), 0b1101101110);
        x.throwsIt(0, 1, true);
        x.throwsIt(1, 0, true);
        KIT.due("catches(3, 1)", x.catches(3, 1), 2);
        KIT.due("catches(3, 2)", x.catches(3, 2), 3);
        KIT.due("catches(2, 1)", x.catches(2, 1), 1);
        KIT.due("catches(1, 60)", x.catches(1, 60), 1);
        KIT.due("catches(9, 60)", x.catches(9, 60), 0);
        KIT.due("catches(10, 1)", x.catches(10, 1), -2);
        KIT.due("catches(-1, 0)", x.catches(-1, 0), -2);
        KIT.due("catches(1, 0)", x.catches(1, 0), -3);
        KIT.due("catches(1, 61)", x.catches(1, 61), -3);
        KIT.due("catches(7, 61)", x.catches(7, 61), -3);
        KIT.due("catches(7, 1)", x.catches(7, 1), -5);
        KIT.due("catches(4, 1)", x.catches(4, 1), -5);
        KIT.due("net(1, 0)", x.net(1, 0), 1);
        KIT.due("net(1, 1)", x.net(1, 1), 1);
        KIT.due("net(2, 0)", x.net(2, 0), 3);
        KIT.due("net(60, 1)", x.net(60, 1), 2);
        KIT.due("net(0, 0)", x.net(0, 0), -3);
        KIT.due("net(61, 0)", x.net(61, 0), -3);
        KIT.due("net(61, 2)", x.net(61, 2), -2);
        KIT.due("net(1, -1)", x.net(1, -1), -2);
        KIT.due("calm(1)", x.calm(1), 0b1101100000);
        KIT.due("calm(60)", x.calm(60), 0b1101100000);
        KIT.due("calm(0)", x.calm(0), -3);
        KIT.due("calm(61)", x.calm(61), -3);
        x.lift(1);
        KIT.due("catches(3, 1)", x.catches(3, 1), 0);
        KIT.due("calm(1)", x.calm(1), 0b1101101000);
        KIT.due("calm(2)", x.calm(2), 0b1101100000);
        x = Kit.sea("sea 2 2 tides 1;rock 0 0;rock 1 0;rock 0 1;rock 1 1;");
        KIT.due("net(1, 0)", x.net(1, 0), -1);
        KIT.due("net(1, 1)", x.net(1, 1), -1);
        KIT.due("net(0, 0)", x.net(0, 0), -3);
        KIT.due("calm(1)", x.calm(1), 0);
        // Beyond the 32nd bit.
        x = Kit.sea("sea 6 6 tides 1;rock 0 0;");
        KIT.due("calm(1)", x.calm(1), 0xffffffffeL);
    }

    private static void whatLies() {
        // What lies now comes into the net when it is passed on, but calm is told of what is at sea now.
        BottlePost x = Kit.sea("sea 3 2 tides 2;shore 0 0 throws east walks 1;shore 2 1 throws north walks 0;"
            + "current 1 0 4 0;");
        x.throwsIt(0, 1, true);
        KIT.due("calm(1)", x.calm(1), 28);
        x.tides(1);
        KIT.due("bottle(0, 0)", x.bottle(0, 0), 1);
        KIT.due("catches(1, 1)", x.catches(1, 1), 1);
        KIT.due("net(1, 0)", x.net(1, 0), 1);
        KIT.due("net(1, 1)", x.net(1, 1), 1);
        KIT.due("calm(1)", x.calm(1), 30);
    }

    private static void whatSinks() {
        BottlePost x = Kit.sea("sea 3 2 tides 1;shore 0 0 throws east walks 0;current 1 0 2;cork 1;");
        x.throwsIt(0, -1, true);
        KIT.due("catches(1, 5)", x.catches(1, 5), 1);
        KIT.due("catches(2, 5)", x.catches(2, 5), 0);
        KIT.due("calm(5)", x.calm(5), 60);
        x.tides(1);
        KIT.due("catches(2, 5)", x.catches(2, 5), 0);
        KIT.due("calm(5)", x.calm(5), 62);
    }

    private static void deadlyCells() {
        KIT.due("deadly(true)", Kit.sea(LANE).deadly(true), 64);
        KIT.due("deadly(false)", Kit.sea(LANE).deadly(false), 64);
        KIT.due("deadly(true)", Kit.sea(LANE + "wind : 4;").deadly(true), 64);
        KIT.due("deadly(false)", Kit.sea(LANE + "wind : 4;").deadly(false), 832);
        KIT.due("deadly(false)", Kit.sea(LANE + "wind : 4;cork 1;").deadly(false), 320);
        KIT.due("deadly(true)", Kit.sea("sea 3 2 tides 1;").deadly(true), 0);
        // By the phase it is now: what stays a tide sinks.
        BottlePost x = Kit.sea("sea 3 2 tides 2;rock 2 0;current 1 0 2 0;cork 1;");
        KIT.due("deadly(true)", x.deadly(true), 2);
        x.tides(1);
        KIT.due("deadly(true)", x.deadly(true), 0);
        x = Kit.sea("sea 6 6 tides 1;rock 5 5;current 4 5 2;");
        KIT.due("deadly(true)", x.deadly(true), 1L << 34);
    }

    private static void eddies() {
        KIT.due("eddy(0, true)", Kit.sea(ROUND).eddy(0, true), 4);
        KIT.due("eddy(3, false)", Kit.sea(ROUND).eddy(3, false), 4);
        KIT.due("eddy(8, false)", Kit.sea(ROUND).eddy(8, false), 1);
        KIT.due("eddy(9, true)", Kit.sea(ROUND).eddy(9, true), -2);
        KIT.due("eddy(-1, true)", Kit.sea(ROUND).eddy(-1, true), -2);
        KIT.due("eddy(0, true)", Kit.sea(ROUND + "cork 2;").eddy(0, true), 4);
        KIT.due("eddy(0, true)", Kit.sea(ROUND + "moon 3 springs 0;").eddy(0, true), 12);
        KIT.due("eddy(0, true)", Kit.sea(ROUND + "moon 3 springs 3;").eddy(0, true), 6);
        KIT.due("eddy(0, true)", Kit.sea(ROUND + "rock 1 1;").eddy(0, true), -1);
        KIT.due("eddy(4, true)", Kit.sea(ROUND + "rock 1 1;").eddy(4, true), -5);
        // Lying, if only till it is found in the same tide, ends it.
        String shore = "shore 1 1 throws west walks 0;keeps : 1 = 2;";
        KIT.due("eddy(0, true)", Kit.sea(ROUND + shore).eddy(0, true), -1);
        KIT.due("eddy(4, true)", Kit.sea(ROUND + shore).eddy(4, true), -5);
        KIT.due("eddy(0, false)", Kit.sea(ROUND + "wind : 1;").eddy(0, false), -1);
        KIT.due("eddy(1, false)", Kit.sea(ROUND + "wind : 1;").eddy(1, false), 1);
        // A round of 8 by a moon of 25: 200 tides; by one of 26 it were 104, by one of 27, 216.
        String eight = "sea 3 3 tides 1;current 0 0 2;current 1 0 2;current 2 0 3;current 2 1 3;current 2 2 4;"
            + "current 1 2 4;current 0 2 1;current 0 1 1;moon ";
        KIT.due("eddy(0, true)", Kit.sea(eight + "25 springs 0;").eddy(0, true), 200);
        KIT.due("eddy(0, true)", Kit.sea(eight + "26 springs 0;").eddy(0, true), 104);
        KIT.due("eddy(0, true)", Kit.sea(eight + "27 springs 0;").eddy(0, true), -1);
        // 174 tides for phase and moon; with a round of 4 it were 348.
        String slow = "sea 3 3 tides 6;moon 29 springs 0;";
        KIT.due("eddy(0, true)", Kit.sea(slow).eddy(0, true), 174);
        String round = "current 0 0 2 2 2 2 2 2;current 1 0 3 3 3 3 3 3;current 1 1 4 4 4 4 4 4;current 0 1 1 1 1 1 1 1;";
        KIT.due("eddy(0, true)", Kit.sea(slow + round).eddy(0, true), -1);
        BottlePost x = Kit.sea("sea 3 2 tides 2;current 0 0 2 0;current 1 0 0 4;");
        KIT.due("eddy(0, true)", x.eddy(0, true), 2);
        KIT.due("eddy(1, true)", x.eddy(1, true), -1);
        x.tides(1);
        KIT.due("eddy(0, true)", x.eddy(0, true), -1);
        KIT.due("eddy(1, true)", x.eddy(1, true), 2);
        x.throwsIt(0, -1, true);
        KIT.due("count(7)", x.count(7), 1);
    }

    private static void throwers(BottlePost x, int[][] due) {
        KIT.due("seen(0)", x.seen(0), due.length);
        for (int k = 0; k < due.length; k++) {
            for (int what = 0; what < 4; what++) {
                KIT.due("thrower(0, " + k + ", " + what + ")", x.thrower(0, k, what), due[k][what]);
            }
        }
        for (int what = 0; what < 4; what++) {
            KIT.due("thrower behind the last, " + what, x.thrower(0, due.length, what), what == 1 ? -9 : -1);
        }
    }

    private static void seen() {
        BottlePost x = Kit.sea(LANE + "shore 0 1 throws west walks 0;");
        Kit.tray(x, 0, 0, 3, 0);
        int[][] now = {{1, -1, 0, 0}, {1, -1, 1, 0}, {1, 0, 0, 0}, {1, 0, 1, 0}, {1, 2, 0, 0}, {1, 2, 1, 0}};
        throwers(x, now);
        KIT.due("suspects(0)", x.suspects(0), 2);
        x.tides(2);
        int[][] then = {{0, -1, 0, 2}, {0, -1, 1, 2}, {0, 1, 0, 2}, {0, 1, 1, 2}, {0, 2, 0, 2}, {0, 2, 1, 2},
            {1, -1, 0, 0}, {1, -1, 1, 0}, {1, 0, 0, 0}, {1, 0, 0, 1}, {1, 0, 0, 2}, {1, 0, 1, 0}, {1, 0, 1, 1},
            {1, 0, 1, 2}, {1, 2, 0, 0}, {1, 2, 0, 1}, {1, 2, 0, 2}, {1, 2, 1, 0}, {1, 2, 1, 1}, {1, 2, 1, 2}};
        throwers(x, then);
        KIT.due("suspects(0)", x.suspects(0), 3);
        Kit.tray(x, 0, 3, 3, 0, 2, 1);
        throwers(x, new int[][] {{0, -1, 0, 2}, {0, -1, 1, 2}, {0, 1, 0, 2}, {0, 1, 1, 2}, {0, 2, 0, 2}, {0, 2, 1, 2}});
        KIT.due("suspects(0)", x.suspects(0), 1);
        Kit.tray(x, 0, 3, 3, 2);
        throwers(x, new int[][] {{1, -1, 0, 2}, {1, -1, 1, 2}, {1, 0, 0, 2}, {1, 0, 1, 2}, {1, 2, 0, 2}, {1, 2, 1, 2}});
        Kit.tray(x, 0, 3, 3, 3);
        throwers(x, new int[0][]);
        KIT.due("suspects(0)", x.suspects(0), 0);
        Kit.tray(x, 0, 1, 1, 0, 2, 0);
        KIT.due("two cells at once", x.seen(0), 0);
        Kit.tray(x, 0, 1, 3, 0, 3, 0, 3, 0, 3, 0);
        KIT.due("one four times", x.seen(0), 20);
        Kit.tray(x, 0, 1, 7, 0);
        KIT.due("on a rock", x.seen(0), 0);
        // Not more than 30 tides ago: what shore 1 passes on stays on cell 3, once it has come there.
        x.tides(98);
        Kit.tray(x, 0, 1, 3, 0);
        KIT.due("seen(0)", x.seen(0), 4 + 2 * 29 + 2 + 4 * 31);
        Kit.tray(x, 0, 1, 3, 30);
        KIT.due("seen(0)", x.seen(0), 6);
        KIT.due("count(4)", x.count(4), 0);
        // Lying on a shore is seen, too.
        x = Kit.sea("sea 3 2 tides 3;shore 0 0 throws east walks 0;shore 2 0 throws west walks 2;current 1 0 2 2 2;");
        x.tides(1);
        Kit.tray(x, 0, 1, 2, 0);
        throwers(x, new int[][] {{0, -1, 0, 1}, {0, -1, 1, 1}, {0, 1, 0, 1}, {0, 1, 1, 1}, {1, -1, 0, 1},
            {1, -1, 1, 1}, {1, 0, 0, 1}, {1, 0, 1, 1}});
    }

    private static void code(BottlePost x, int tray, int due) {
        KIT.due("seen(" + tray + ")", x.seen(tray), due);
        KIT.due("suspects(" + tray + ")", x.suspects(tray), due);
        KIT.due("thrower(" + tray + ")", x.thrower(tray, 0, 0), due);
        KIT.due("thrower(" + tray + "), k below 0", x.thrower(tray, -1, 0), due);
        KIT.due("thrower(" + tray + ") of no what", x.thrower(tray, 0, 4), -2);
        KIT.due("thrower(" + tray + ") of no what", x.thrower(tray, -1, -1), -2);
    }

    private static void seenCodes() {
        BottlePost x = Kit.sea(LANE);
        code(x, -1, -2);
        code(x, 4, -2);
        code(x, 3, -6);
        for (int n : new int[] {0, 1, 3, 5, 7, 9, 10, 40}) {
            Kit.tray(x, 0, 2, new long[n]);
            code(x, 0, -4);
        }
        Kit.tray(x, 0, 2, 99, 99, 99);
        code(x, 0, -4);
        long[][] wrong = {{10, 0}, {-1, 0}, {0, 31}, {0, -1}, {0, 0, 0, 0, 0, 0, 0, 31}, {1L << 32, 0}, {0, 1L << 40}};
        for (long[] row : wrong) {
            Kit.tray(x, 0, 3, row);
            code(x, 0, -3);
        }
        Kit.tray(x, 0, 3, 9, 30);
        KIT.due("seen(0)", x.seen(0), 0);
        KIT.due("thrower, k below 0", x.thrower(0, -1, 0), -3);
        KIT.due("thrower, k below 0, to", x.thrower(0, -1, 1), -3);
        KIT.due("thrower, far k", x.thrower(0, Integer.MAX_VALUE, 1), -9);
        // Without a sea there is no cell.
        x = new BottlePost();
        Kit.tray(x, 0, 3, 0, 0);
        code(x, 0, -3);
    }
}
