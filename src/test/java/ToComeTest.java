/** Promises 18 to 27: what becomes of bottles and throws, relays, keepers, shores one can do without. */
final class ToComeTest {
    private static final Kit KIT = new Kit("ToComeTest");
    /** A lane from shore 0 to shore 1, a rock below it. Cells 0 to 4, and 5 to 9 with the rock on 7. */
    private static final String LANE = "sea 5 2 tides 2;shore 0 0 throws east walks 0;shore 4 0 throws west walks 0 1;"
        + "rock 2 1;current 1 0 2 2;current 2 0 2 2;current 3 0 2 2;current 1 1 2 2;cork 9;";
    /** By shore 2 it comes soon, at phase 1 the wind carries light ones around it. */
    private static final String AROUND = "sea 5 2 tides 2;shore 0 0 throws east walks 0;shore 4 0 throws west walks 0 1;"
        + "shore 2 0 throws east walks 0 1;current 1 0 2 0;current 3 0 2 2;current 1 1 2 2;current 2 1 2 2;"
        + "current 3 1 2 2;current 4 1 1 1;wind : 3 * (1 - y) * tide;";
    /** Light ones come to shore 2, heavy ones from there to shore 1. */
    private static final String FRIEND = "sea 5 2 tides 1;shore 0 0 throws east walks 0;shore 4 1 throws north walks 0;"
        + "shore 2 0 throws south walks 0;rock 3 0;current 2 1 2;current 3 1 2;wind : 2 - y;";

    public static void main(String[] args) {
        fates();
        farFates();
        places();
        comings();
        keeperOfThrow();
        reaching();
        bestThrows();
        bestOfLike();
        longestWait();
        reachersOf();
        relays();
        keepersOfAll();
        withoutPeople();
        nothingIsDone();
        KIT.end();
    }

    private static void fate(BottlePost x, int b, int... due) {
        for (int what = 0; what < 3; what++) {
            KIT.due("fate(" + b + ", " + what + ")", x.fate(b, what), due[what]);
        }
    }

    private static void fates() {
        BottlePost x = Kit.sea(LANE);
        KIT.due("fate(0, 0)", x.fate(0, 0), -8);
        x.throwsIt(0, 1, true);
        x.throwsIt(1, 0, true);
        x.throwsIt(0, -1, true);
        x.throwsIt(0, -1, true);
        fate(x, 0, 2, 3, 1);
        fate(x, 1, 0, -1, -1);
        KIT.due("fate(0, 3)", x.fate(0, 3), -8);
        KIT.due("fate(0, -1)", x.fate(0, -1), -8);
        KIT.due("fate(4, 0)", x.fate(4, 0), -8);
        KIT.due("fate(-1, 0)", x.fate(-1, 0), -8);
        x.lift(3);
        fate(x, 3, 5, 0, -1);
        x.storm(1, 6);
        fate(x, 0, 3, 1, -1);
        x.storm(6, 5);
        fate(x, 0, 4, 9, -1);
        x.tides(8);
        fate(x, 0, 4, 1, -1);
        x.tides(1);
        fate(x, 0, 4, 0, -1);
        // A bottle that lies is found in time.
        x = Kit.sea("sea 3 2 tides 5;shore 0 0 throws east walks 0;shore 2 0 throws west walks 4;current 1 0 2 2 2 2 2;");
        x.throwsIt(0, -1, true);
        x.tides(1);
        KIT.due("bottle(0, 0)", x.bottle(0, 0), 1);
        fate(x, 0, 2, 4, 1);
    }

    private static void farFates() {
        // It is passed on tide by tide, and kept in its 200th, or in its 201st.
        String sea = "sea 3 2 tides 1;shore 0 0 throws east walks 0;shore 2 1 throws west walks 0;current 1 0 4;keeps : ";
        BottlePost x = Kit.sea(sea + "age = 200;");
        x.throwsIt(0, 1, true);
        fate(x, 0, 2, 200, 0);
        KIT.due("keeper", x.keeper(0, 1, true, 30), 0);
        x = Kit.sea(sea + "age = 201;");
        x.throwsIt(0, 1, true);
        fate(x, 0, 0, -1, -1);
        KIT.due("keeper", x.keeper(0, 1, true, 0), -1);
        KIT.due("whereIn(0, 200)", x.whereIn(0, 200), 1);
        x.tides(1);
        fate(x, 0, 2, 200, 0);
        KIT.due("whereIn(0, 199)", x.whereIn(0, 199), 1);
        KIT.due("whereIn(0, 200)", x.whereIn(0, 200), -1);
        // Tides are told from now, the wait being one of them.
        x = Kit.sea("sea 3 2 tides 2;shore 0 0 throws east walks 0;shore 1 1 throws west walks 0 1;current 1 0 0 3;");
        KIT.due("reaches(0, 1, true, 30)", x.reaches(0, 1, true, 30), 32);
        KIT.due("reaches(0, 1, true, 29)", x.reaches(0, 1, true, 29), 30);
    }

    private static void places() {
        BottlePost x = Kit.sea("sea 4 2 tides 2;shore 0 0 throws east walks 0;shore 3 0 throws south walks 0;"
            + "current 1 0 2 2;current 2 0 2 2;");
        KIT.due("whereIn(0, 0)", x.whereIn(0, 0), -2);
        KIT.due("whereIn(0, 201)", x.whereIn(0, 201), -2);
        x.throwsIt(0, 1, true);
        int[] cells = {1, 2, 3, -1, -1};
        for (int i = 0; i < cells.length; i++) {
            KIT.due("whereIn(0, " + i + ")", x.whereIn(0, i), cells[i]);
        }
        KIT.due("whereIn(0, 200)", x.whereIn(0, 200), -1);
        KIT.due("whereIn(0, 201)", x.whereIn(0, 201), -3);
        KIT.due("whereIn(0, -1)", x.whereIn(0, -1), -3);
        KIT.due("whereIn(1, 0)", x.whereIn(1, 0), -2);
        KIT.due("whereIn(-1, 0)", x.whereIn(-1, 0), -2);
        x.tides(2);
        KIT.due("whereIn(0, 0)", x.whereIn(0, 0), 3);
        KIT.due("whereIn(0, 1)", x.whereIn(0, 1), -1);
        x.tides(1);
        KIT.due("whereIn(0, 0)", x.whereIn(0, 0), -1);
    }

    private static void comings() {
        BottlePost x = Kit.sea("sea 4 2 tides 2;shore 0 0 throws east walks 0;shore 3 0 throws south walks 0;"
            + "current 1 0 2 2;current 2 0 2 2;");
        KIT.due("comesTo(0, 1)", x.comesTo(0, 1), -2);
        x.throwsIt(0, 1, true);
        int[] due = {-1, 0, 1, 2, -1, -1, -1, -1, -2};
        for (int k = 0; k < due.length; k++) {
            KIT.due("comesTo(0, " + k + ")", x.comesTo(0, k), due[k]);
        }
        KIT.due("comesTo(0, -1)", x.comesTo(0, -1), -2);
        KIT.due("comesTo(1, 1)", x.comesTo(1, 1), -2);
        x.lift(0);
        KIT.due("comesTo(0, 1)", x.comesTo(0, 1), -1);
        // Phase 0 and moon 0 come together every 174 tides, and carry it two cells; then it goes on by sixes.
        x = Kit.sea("sea 6 2 tides 6;shore 0 0 throws east walks 0;moon 29 springs 1;current 1 0 2 0 0 0 0 0;"
            + "current 2 0 2 4 0 0 0 0;current 3 0 2 0 0 0 0 0;current 4 0 2 0 0 0 0 0;current 5 0 3 0 0 0 0 0;"
            + "current 5 1 4 0 0 0 0 0;current 4 1 0 0 4 0 0 0;current 3 1 0 0 0 4 0 0;");
        x.tides(1);
        x.throwsIt(0, -1, true);
        KIT.due("comesTo(0, 3)", x.comesTo(0, 3), 174);
        KIT.due("comesTo(0, 10)", x.comesTo(0, 10), 198);
        KIT.due("comesTo(0, 9)", x.comesTo(0, 9), 200);
        KIT.due("comesTo(0, 8)", x.comesTo(0, 8), -1);
        KIT.due("whereIn(0, 199)", x.whereIn(0, 199), 10);
        KIT.due("whereIn(0, 200)", x.whereIn(0, 200), 9);
        // To a shore where it is found at once it never comes: it doesn't lie there at the tide's end.
        x = Kit.sea(LANE);
        x.throwsIt(0, 1, true);
        KIT.due("comesTo(0, 4)", x.comesTo(0, 4), -1);
        KIT.due("comesTo(0, 3)", x.comesTo(0, 3), 2);
    }

    private static void keeperOfThrow() {
        BottlePost x = Kit.sea(LANE + "shore 0 1 throws west walks 0;");
        KIT.due("keeper(0, 1)", x.keeper(0, 1, true, 0), 1);
        KIT.due("keeper(0, -1)", x.keeper(0, -1, false, 30), 1);
        KIT.due("keeper(1, -1)", x.keeper(1, -1, true, 0), 1);
        KIT.due("keeper(1, 0)", x.keeper(1, 0, true, 0), -1);
        KIT.due("keeper(0, 0)", x.keeper(0, 0, true, 0), -2);
        KIT.due("keeper(3, -1)", x.keeper(3, -1, true, 0), -2);
        KIT.due("keeper(-1, 0)", x.keeper(-1, 0, true, 0), -2);
        KIT.due("keeper(-1, -1)", x.keeper(-1, -1, true, 0), -2);
        KIT.due("keeper(0, 3)", x.keeper(0, 3, true, 0), -2);
        KIT.due("keeper(0, -2)", x.keeper(0, -2, true, 0), -2);
        KIT.due("keeper(0, 1, 31)", x.keeper(0, 1, true, 31), -3);
        KIT.due("keeper(0, 1, -1)", x.keeper(0, 1, true, -1), -3);
        KIT.due("keeper(2, 1)", x.keeper(2, 1, true, 0), -5);
        KIT.due("keeper(2, -1)", x.keeper(2, -1, true, 0), -5);
        KIT.due("keeper(2, 1, 31)", x.keeper(2, 1, true, 31), -3);
        KIT.due("keeper(2, 2, 31)", x.keeper(2, 2, true, 31), -2);
        // All eight being thrown, one can still think of another.
        for (int b = 0; b < 8; b++) {
            x.throwsIt(0, 1, true);
        }
        KIT.due("keeper(0, 1)", x.keeper(0, 1, true, 0), 1);
    }

    private static void reaching() {
        BottlePost x = Kit.sea(LANE + "shore 0 1 throws west walks 0;");
        KIT.due("reaches(0, 1, true, 0)", x.reaches(0, 1, true, 0), 3);
        KIT.due("reaches(0, 1, false, 30)", x.reaches(0, 1, false, 30), 33);
        KIT.due("reaches(1, 0)", x.reaches(1, 0, true, 0), -1);
        KIT.due("reaches(0, -1)", x.reaches(0, -1, true, 0), -2);
        KIT.due("reaches(0, 0)", x.reaches(0, 0, true, 0), -2);
        KIT.due("reaches(3, 0)", x.reaches(3, 0, true, 0), -2);
        KIT.due("reaches(0, 3)", x.reaches(0, 3, true, 0), -2);
        KIT.due("reaches(0, 1, 31)", x.reaches(0, 1, true, 31), -3);
        KIT.due("reaches(0, 1, -1)", x.reaches(0, 1, true, -1), -3);
        KIT.due("reaches(2, 0)", x.reaches(2, 0, true, 0), -5);
        KIT.due("reaches(2, 0, 31)", x.reaches(2, 0, true, 31), -3);
        // Kept by another it doesn't reach whom it is to.
        x = Kit.sea(LANE + "shore 0 1 throws west walks 0;keeps : finder = 1;");
        KIT.due("keeper(0, 2)", x.keeper(0, 2, true, 0), 1);
        KIT.due("reaches(0, 2)", x.reaches(0, 2, true, 0), -1);
        KIT.due("best(0, 2)", x.best(0, 2, 0), -1);
    }

    private static void best(BottlePost x, int from, int to, int... due) {
        for (int what = 0; what < 3; what++) {
            KIT.due("best(" + from + ", " + to + ", " + what + ")", x.best(from, to, what), due[what]);
        }
    }

    private static void bestThrows() {
        BottlePost x = Kit.sea(LANE + "shore 0 1 throws west walks 0;");
        best(x, 0, 1, 3, 0, 0);
        best(x, 1, 0, -1, -1, -1);
        best(x, 2, 0, -5, -5, -5);
        best(x, 0, 0, -2, -2, -2);
        best(x, 0, -1, -2, -2, -2);
        best(x, 3, 0, -2, -2, -2);
        KIT.due("best(0, 1, 3)", x.best(0, 1, 3), -2);
        KIT.due("best(0, 1, -1)", x.best(0, 1, -1), -2);
        KIT.due("best(2, 0, 3)", x.best(2, 0, 3), -2);
        best(Kit.sea(FRIEND), 2, 1, 2, 0, 1);
        best(Kit.sea(FRIEND), 0, 1, -1, -1, -1);
        best(Kit.sea(AROUND), 0, 1, 2, 0, 0);
    }

    private static void bestOfLike() {
        // The lane is open at phase 4 of 6 alone, and closes by the cork: one must wait, but not too long.
        String sea = "sea 4 2 tides 6;shore 0 0 throws east walks 0;shore 2 0 throws south walks 0 1 2 3 4 5;"
            + "current 1 0 0 0 0 0 2 0;cork ";
        best(Kit.sea(sea + "9;"), 0, 1, 5, 0, 0);
        best(Kit.sea(sea + "3;"), 0, 1, 5, 2, 0);
        best(Kit.sea(sea + "1;"), 0, 1, 5, 4, 0);
        BottlePost x = Kit.sea(sea + "3;");
        x.tides(5);
        best(x, 0, 1, 6, 3, 0);
        // Light ones are blown away, but for w 4: the least w goes ahead of the weight.
        best(Kit.sea(sea + "3;wind : 3;"), 0, 1, 5, 2, 1);
        best(Kit.sea(sea + "3;wind : 3;wind : 1;"), 0, 1, 5, 2, 0);
        best(Kit.sea(sea + "3;rock 1 1;wind : 3;"), 0, 1, 5, 2, 1);
    }

    private static void longestWait() {
        // Phase 0 and moon 0 come together every 174 tides; the cork leaves no other way than to wait for them.
        BottlePost x = Kit.sea("sea 4 2 tides 6;shore 0 0 throws east walks 0;shore 3 0 throws west walks 0;"
            + "current 1 0 2 0 0 0 0 0;current 2 0 2 0 0 0 0 0;moon 29 springs 1;cork 1;");
        best(x, 0, 1, 1, 0, 0);
        x.tides(99);
        x.tides(44);
        best(x, 0, 1, -1, -1, -1);
        KIT.due("reachers(1)", x.reachers(1), 0);
        x.tides(1);
        best(x, 0, 1, 31, 30, 0);
        KIT.due("reachers(1)", x.reachers(1), 1);
    }

    private static void reachersOf() {
        BottlePost x = Kit.sea(LANE + "shore 0 1 throws east walks 0;");
        KIT.due("reachers(1)", x.reachers(1), 1);
        KIT.due("reachers(0)", x.reachers(0), 0);
        KIT.due("reachers(3)", x.reachers(3), -2);
        KIT.due("reachers(-1)", x.reachers(-1), -2);
        x = Kit.sea(AROUND);
        KIT.due("reachers(1)", x.reachers(1), 5);
        KIT.due("reachers(2)", x.reachers(2), 1);
        x = Kit.sea(FRIEND);
        KIT.due("reachers(1)", x.reachers(1), 4);
        KIT.due("reachers(2)", x.reachers(2), 1);
    }

    private static void relay(BottlePost x, int from, int to, int... due) {
        int[] whats = {0, 1, 10, 11, 12, 13, 14, 15};
        for (int i = 0; i < whats.length; i++) {
            KIT.due("relay(" + from + ", " + to + ", " + whats[i] + ")", x.relay(from, to, whats[i]),
                i < due.length ? due[i] : -1);
        }
    }

    private static void relays() {
        BottlePost x = Kit.sea(FRIEND);
        relay(x, 0, 1, 3, 2, 0, 2, 1);
        relay(x, 2, 1, 2, 1, 2, 1);
        relay(x, 1, 0, -1, -1, -1);
        KIT.due("relay(0, 0, 0)", x.relay(0, 0, 0), -2);
        KIT.due("relay(0, 3, 0)", x.relay(0, 3, 0), -2);
        KIT.due("relay(3, 0, 0)", x.relay(3, 0, 0), -2);
        KIT.due("relay(0, -1, 0)", x.relay(0, -1, 0), -2);
        for (int what : new int[] {-1, 2, 9, 16}) {
            KIT.due("relay(0, 1, " + what + ")", x.relay(0, 1, what), -2);
        }
        // As soon by the friend, but that takes a letter more.
        relay(Kit.sea(AROUND), 0, 1, 2, 1, 0, 1);
        // Who can't throw reaches none, but may be asked.
        relay(Kit.sea(LANE + "shore 0 1 throws west walks 0;"), 2, 1, -1, -1, -1);
        // The second letter waits for its phase, from when the first one came.
        x = Kit.sea("sea 5 2 tides 4;shore 0 0 throws east walks 0;shore 4 1 throws north walks 0 1 2 3;"
            + "shore 2 0 throws south walks 0 1 2 3;rock 3 0;current 2 1 0 0 0 2;current 3 1 2 2 2 2;wind : 2 - y;");
        relay(x, 0, 1, 5, 2, 0, 2, 1);
        x.tides(2);
        relay(x, 0, 1, 3, 2, 0, 2, 1);
        x.tides(1);
        relay(x, 0, 1, 6, 2, 0, 2, 1);
        // As soon by a friend who comes ahead of the goal by number: still the fewest letters.
        relay(Kit.sea("sea 5 2 tides 1;shore 0 0 throws east walks 0;shore 2 0 throws east walks 0;"
            + "shore 4 0 throws west walks 0;current 1 0 2;current 3 0 2;"), 0, 2, 2, 1, 0, 2);
        // Two friends alike, one by the wind of phase 0, one by that of phase 1: the first by number.
        String rows = "shore 4 2 throws west walks 5;rock 3 0;rock 3 2;current 2 1 2 2 2 2 2 2;current 3 1 2 2 2 2 2 2;"
            + "current 4 1 3 3 3 3 3 3;current 2 3 2 2 2 2 2 2;current 3 3 2 2 2 2 2 2;current 4 3 1 1 1 1 1 1;"
            + "wind : 1 + 2 * tide * (1 - (y - 2) * (y - 2));";
        String north = "shore 1 1 throws east walks 0 1 2 3 4 5;";
        String south = "shore 1 3 throws east walks 0 1 2 3 4 5;";
        relay(Kit.sea("sea 5 5 tides 6;shore 0 2 throws east walks 0;" + north + south + rows), 0, 3, 6, 2, 0, 1, 3);
        relay(Kit.sea("sea 5 5 tides 6;shore 0 2 throws east walks 0;" + south + north + rows), 0, 3, 6, 2, 0, 1, 3);
    }

    private static void keepersOfAll() {
        BottlePost x = Kit.sea(LANE + "shore 0 1 throws west walks 0;");
        KIT.due("keepers(0)", x.keepers(0), 2);
        KIT.due("keepers(30)", x.keepers(30), 2);
        KIT.due("keepers(31)", x.keepers(31), -3);
        KIT.due("keepers(-1)", x.keepers(-1), -3);
        x = Kit.sea(FRIEND);
        KIT.due("keepers(0)", x.keepers(0), 4);
        x = Kit.sea("sea 4 2 tides 2;shore 0 0 throws east walks 0 1;shore 3 0 throws west walks 0 1;current 1 0 4 0;"
            + "current 2 0 4 2;cork 1;");
        KIT.due("keepers(0)", x.keepers(0), 1);
        KIT.due("keepers(1)", x.keepers(1), 2);
        x.tides(1);
        KIT.due("keepers(0)", x.keepers(0), 2);
    }

    private static void withoutPeople() {
        BottlePost x = Kit.sea(AROUND);
        KIT.due("without(0, 1, 2)", x.without(0, 1, 2), 4);
        KIT.due("best(0, 1, 0) still", x.best(0, 1, 0), 2);
        KIT.due("without(2, 1, 0)", x.without(2, 1, 0), 0);
        BottlePost y = Kit.sea(AROUND + "shore 0 1 throws west walks 0;");
        KIT.due("without(0, 1, 3)", y.without(0, 1, 3), 0);
        KIT.due("without(0, 1, 2)", y.without(0, 1, 2), 4);
        KIT.due("without(0, 1, 3)", y.without(0, 1, 3), 0);
        KIT.due("without(1, 0, 2)", x.without(1, 0, 2), -1);
        KIT.due("without(0, 1, 0)", x.without(0, 1, 0), -2);
        KIT.due("without(0, 1, 1)", x.without(0, 1, 1), -2);
        KIT.due("without(0, 0, 1)", x.without(0, 0, 1), -2);
        KIT.due("without(0, 1, 3)", x.without(0, 1, 3), -2);
        KIT.due("without(0, 1, -1)", x.without(0, 1, -1), -2);
        KIT.due("without(3, 1, 2)", x.without(3, 1, 2), -2);
        KIT.due("without(0, -1, 2)", x.without(0, -1, 2), -2);
        KIT.due("shore(2, 2)", x.shore(2, 2), 3);
        // It comes by that shore or not at all.
        x = Kit.sea(AROUND + "wind : 0;");
        KIT.due("without(0, 1, 2)", x.without(0, 1, 2), -1);
        KIT.due("without(0, 2, 1)", x.without(0, 2, 1), 0);
        x = Kit.sea(LANE + "shore 0 1 throws west walks 0;");
        KIT.due("without(2, 0, 1)", x.without(2, 0, 1), -5);
        KIT.due("without(2, 0, 2)", x.without(2, 0, 2), -2);
    }

    private static void nothingIsDone() {
        BottlePost x = Kit.sea(AROUND);
        x.throwsIt(0, 1, false);
        x.fate(0, 0);
        x.whereIn(0, 100);
        x.comesTo(0, 9);
        x.keeper(0, 1, false, 3);
        x.reaches(0, 1, false, 3);
        x.best(0, 1, 0);
        x.reachers(1);
        x.relay(0, 1, 0);
        x.keepers(3);
        x.without(0, 1, 2);
        KIT.due("count(4)", x.count(4), 1);
        KIT.due("count(7)", x.count(7), 0);
        KIT.due("count(10)", x.count(10), 1);
        KIT.due("bottle(0, 1)", x.bottle(0, 1), 1);
        KIT.due("bottle(0, 5)", x.bottle(0, 5), 0);
    }
}
