/** Boundary cases of trays, images and counts, promises 36 to 41, each under the sentence that names it. */
final class TraysBoundsTest {
    private static final Kit KIT = new Kit("TraysBoundsTest");
    private static final String TWO = "sea 2 2 tides 1;";
    /** Shore 0 throws onto cell 10, from where it comes back in the tide of phase 3, and is kept. */
    private static final String BACK = "sea 6 2 tides 6;shore 5 1 throws west walks 0 1 2 3 4 5;"
        + "shore 0 0 throws east walks 0;current 4 1 0 0 0 2 0 0;";

    public static void main(String[] args) {
        missingAtFirst();
        numbers();
        numbersRefused();
        traysStay();
        writes();
        writesRefused();
        lists();
        listsOfNone();
        listsRefused();
        images();
        imagesKeepNoMore();
        imagesOfAll();
        imagesRefused();
        counts();
        countsFull();
        KIT.covers(36, 41);
        KIT.end();
    }

    private static void missingAtFirst() {
        KIT.says(0, "TRAYS 0 to 3 are MISSING at first, or have 0 to 40 numbers of 8 bits (sort 0), 16 (1), 32 (2), 64 (3).");
        BottlePost x = new BottlePost();
        KIT.each("perform", -6, x::perform, 0, 1, 2, 3);
        KIT.each("write", -6, tray -> x.write(tray, 0, 0), 0, 1, 2, 3);
        KIT.each("seen", -6, x::seen, 0, 1, 2, 3);
        KIT.each("perform", -2, x::perform, -1, 4);
        // One is made, the others stay missing.
        KIT.due("numbers(2, 0, 0)", x.numbers(2, 0, 0), 0);
        KIT.each("perform", -6, x::perform, 0, 1, 3);
        KIT.due("perform(2)", x.perform(2), 0);
        KIT.due("write(2, 0, 0)", x.write(2, 0, 0), -7);
    }

    private static void numbers() {
        KIT.says(36, "A TRAY has n numbers of a sort, all 0 (in place of another one): 0.");
        BottlePost x = Kit.sea(TWO);
        for (int sort = 0; sort < 4; sort++) {
            for (int n : new int[] {0, 1, 39, 40}) {
                KIT.due("numbers", x.numbers(3, sort, n), 0);
                KIT.due("the last", x.write(3, n - 1, -1), n == 0 ? -7 : -1);
                KIT.due("behind the last", x.write(3, n, -1), -7);
            }
        }
        // All forty are -1, a tide each; made anew all are 0, which is no deed, and in another sort, too.
        for (int sort = 0; sort < 4; sort++) {
            BottlePost y = new BottlePost();
            y.numbers(3, 3, 40);
            for (int i = 0; i < 40; i++) {
                y.write(3, i, -1);
            }
            KIT.due("judge(3, 0)", y.judge(3, 0), -1);
            y.numbers(3, sort, sort == 3 ? 40 : 39);
            y.numbers(3, sort, 40);
            for (int i = 0; i < 40; i++) {
                KIT.due("judge(3, 0)", y.judge(3, 0), i);
                y.write(3, i, -1);
            }
        }
    }

    private static void numbersRefused() {
        KIT.says(36, "-2: no such TRAY, sort; -3, and the TRAY stays: n is below 0 or above 40.");
        BottlePost x = new BottlePost();
        Kit.tray(x, 0, 1, -1, -1, -1);
        KIT.each("numbers of no tray", -2, tray -> x.numbers(tray, 0, 1), Kit.LEAST, -1, 4, Kit.MOST);
        KIT.each("numbers of no tray, n none", -2, tray -> x.numbers(tray, 0, 41), Kit.LEAST, -1, 4, Kit.MOST);
        KIT.each("numbers of no sort", -2, sort -> x.numbers(0, sort, 1), Kit.LEAST, -1, 4, Kit.MOST);
        KIT.each("numbers of no sort, n none", -2, sort -> x.numbers(0, sort, -1), Kit.LEAST, -1, 4, Kit.MOST);
        KIT.each("numbers, so many", -3, n -> x.numbers(0, 0, n), Kit.LEAST, -1, 41, Kit.MOST);
        KIT.each("numbers of one missing, so many", -3, n -> x.numbers(1, 0, n), Kit.LEAST, -1, 41, Kit.MOST);
        KIT.due("it stays missing", x.perform(1), -6);
        KIT.due("it stays as it was", x.judge(0, 0), -1);
        KIT.due("of the sort it was", x.write(0, 2, 32767), 32767);
        KIT.due("as long as it was", x.write(0, 3, 0), -7);
    }

    private static void traysStay() {
        KIT.says(36, "(in place of another one)");
        BottlePost x = Kit.sea(BACK);
        Kit.tray(x, 0, 1, 10, -1);
        x.image(0);
        KIT.due("perform(0)", x.perform(0), 2);
        KIT.due("it is still there", x.judge(0, 2), 2);
        x.undo(1);
        KIT.due("undone", x.judge(0, 0), -1);
        x.restore(0);
        KIT.due("restored", x.judge(0, 0), -1);
        Kit.told(x, TWO);
        KIT.due("in another sea", x.judge(0, 0), 0);
        KIT.due("as long as it was", x.write(0, 1, 7), 7);
    }

    private static void writes() {
        KIT.says(37, "Number i of a TRAY is v, cut to its sort: as it is there.");
        BottlePost x = new BottlePost();
        int[] bits = {8, 16, 32, 64};
        for (int sort = 0; sort < 4; sort++) {
            x.numbers(0, sort, 40);
            long half = 1L << bits[sort] - 1;
            long[] v = {0, 1, -1, half - 1, -half, half, -half - 1, 2 * half, 2 * half - 1, 2 * half + 1, Long.MAX_VALUE,
                Long.MIN_VALUE};
            boolean whole = sort == 3;
            long[] due = {0, 1, -1, half - 1, -half, -half, half - 1, 0, -1, 1, whole ? Long.MAX_VALUE : -1,
                whole ? Long.MIN_VALUE : 0};
            for (int i = 0; i < v.length; i++) {
                KIT.due("write(0, 0, " + v[i] + ") of sort " + sort, x.write(0, 0, v[i]), due[i]);
                KIT.due("write(0, 39, " + v[i] + ") of sort " + sort, x.write(0, 39, v[i]), due[i]);
            }
        }
        // As it is there: what is cut to -1 is a tide.
        Kit.tray(x, 0, 0, 255, 0x1ff, Long.MAX_VALUE);
        KIT.due("perform(0)", x.perform(0), 3);
        Kit.tray(x, 0, 1, 255, -1);
        KIT.due("perform(0)", x.perform(0), 0);
        Kit.tray(x, 0, 2, 0xffffffffL, -1);
        KIT.due("perform(0)", x.perform(0), 2);
        Kit.tray(x, 0, 3, 0xffffffffL, -1);
        KIT.due("perform(0)", x.perform(0), 0);
    }

    private static void writesRefused() {
        KIT.says(37, "-2: no such TRAY; -6; -7.");
        BottlePost x = new BottlePost();
        x.numbers(0, 3, 40);
        x.numbers(1, 3, 0);
        KIT.each("write to no tray", -2, tray -> x.write(tray, 0, 9), Kit.LEAST, -1, 4, Kit.MOST);
        KIT.each("write to no tray, no number", -2, tray -> x.write(tray, -1, 9), Kit.LEAST, -1, 4, Kit.MOST);
        KIT.each("write to one missing", -6, i -> x.write(2, i, 9), Kit.LEAST, -1, 0, 40, Kit.MOST);
        KIT.each("write to no number", -7, i -> x.write(0, i, 9), Kit.LEAST, -1, 40, 41, Kit.MOST);
        KIT.each("write to an empty one", -7, i -> x.write(1, i, 9), Kit.LEAST, -1, 0, 1, 40, Kit.MOST);
        KIT.each("write", 9, i -> x.write(0, i, 9), 0, 39);
    }

    private static void lists() {
        KIT.says(38, "The CELLS of a BOTTLE in the TIDES from now on (NONE: none) come into a TRAY, as many as it has places: how many.");
        // Now and behind three tides it is on cell 10, then it is kept; as deeds: throws from 0 to 1, and tides.
        for (int n : new int[] {0, 1, 3, 4, 5, 40}) {
            BottlePost x = Kit.sea(BACK);
            x.throwsIt(0, -1, true);
            x.numbers(0, n % 4, n);
            KIT.due("lists into " + n, x.lists(0, 0), n);
            KIT.due("count(7)", x.count(7), 0);
            KIT.due("count(10)", x.count(10), 1);
            KIT.due("perform of these", x.perform(0), n);
            KIT.due("throws among these", x.count(4), 1 + Math.min(n, 4));
            KIT.due("tides among these", x.count(7), Math.max(0, n - 4));
        }
        BottlePost x = Kit.sea(BACK);
        x.throwsIt(0, -1, true);
        x.tides(3);
        x.numbers(0, 0, 2);
        KIT.due("from now on", x.lists(0, 0), 2);
        KIT.due("one throw, and a tide", x.perform(0), 2);
        KIT.due("count(4)", x.count(4), 2);
        // Lying, too: it comes onto shore 1, on cell 10, and lies there for two tides.
        x = Kit.sea("sea 6 2 tides 6;shore 0 0 throws east walks 0;shore 4 1 throws west walks 2;current 1 0 3 0 0 0 0 0;"
            + "current 1 1 2 2 2 2 2 2;current 2 1 2 2 2 2 2 2;current 3 1 2 2 2 2 2 2;moon 3 springs 3;");
        x.throwsIt(0, 1, true);
        x.tides(1);
        KIT.due("on its way", x.bottle(0, 1), 8);
        x.tides(1);
        KIT.due("lying there", x.bottle(0, 0), 1);
        x.numbers(0, 0, 3);
        KIT.due("lists of what lies", x.lists(0, 0), 3);
        KIT.due("one throw, two tides", x.perform(0), 3);
        KIT.due("count(4)", x.count(4), 2);
        KIT.due("count(7)", x.count(7), 4);
    }

    private static void listsOfNone() {
        KIT.says(38, "(NONE: none)");
        BottlePost x = Kit.sea(BACK);
        x.throwsIt(0, -1, true);
        x.lift(0);
        for (int sort = 0; sort < 4; sort++) {
            x.numbers(sort, sort, 40);
            KIT.due("lists into sort " + sort, x.lists(sort, 0), 40);
            KIT.due("forty tides", x.perform(sort), 40);
            KIT.due("count(7)", x.count(7), 40 * sort + 40);
        }
    }

    private static void listsRefused() {
        KIT.says(38, "-2: the TRAY, the BOTTLE; -6.");
        BottlePost x = Kit.sea(BACK);
        Kit.tray(x, 0, 1, -1, -1);
        KIT.each("lists of none", -2, b -> x.lists(0, b), Kit.LEAST, -1, 0, 8, Kit.MOST);
        KIT.each("lists of none, the tray missing", -2, b -> x.lists(1, b), Kit.LEAST, -1, 0, 8, Kit.MOST);
        x.throwsIt(0, -1, true);
        KIT.each("lists of one", -2, b -> x.lists(0, b), Kit.LEAST, -1, 1, 8, Kit.MOST);
        KIT.each("lists into no tray", -2, tray -> x.lists(tray, 0), Kit.LEAST, -1, 4, Kit.MOST);
        KIT.each("lists into one missing", -6, tray -> x.lists(tray, 0), 1, 2, 3);
        KIT.due("the tray is as it was", x.judge(0, 0), -1);
    }

    private static void images() {
        KIT.says(39, "An IMAGE is made: 0. -2.");
        BottlePost x = Kit.sea(BACK);
        KIT.each("image", -2, x::image, Kit.LEAST, -1, 2, Kit.MOST);
        KIT.each("restore, none being made", -5, x::restore, 0, 1);
        KIT.each("image", 0, x::image, 1);
        KIT.due("restore(0), the other being made", x.restore(0), -5);
        KIT.due("restore(1)", x.restore(1), 0);
        // One is made in place of another, and the other stays.
        x.tides(1);
        x.image(0);
        x.tides(1);
        x.image(1);
        x.tides(1);
        x.image(0);
        x.restore(1);
        KIT.due("count(7)", x.count(7), 2);
        x.restore(0);
        KIT.due("count(7)", x.count(7), 3);
    }

    private static void imagesKeepNoMore() {
        KIT.says(0, "IMAGES 0 to 1: THE SEA and what a call could bring back by UNDOING; nothing can be UNDONE behind (none at first).");
        BottlePost x = Kit.sea(BACK);
        x.throwsIt(0, -1, true);
        x.tides(1);
        x.image(0);
        KIT.due("an image alone undoes nothing", x.count(10), 2);
        x.tides(1);
        KIT.due("restore(0)", x.restore(0), 0);
        KIT.due("count(10)", x.count(10), 0);
        KIT.due("undo(1)", x.undo(1), -3);
        KIT.due("count(7)", x.count(7), 1);
        x.tides(2);
        KIT.due("undo(1)", x.undo(1), 0);
        KIT.due("count(7)", x.count(7), 1);
        // Neither the tape, nor a fault, nor trays.
        x.feed(0, 0, 0, 0, 0);
        Kit.tray(x, 0, 0, -1, -1);
        x.restore(0);
        KIT.due("count(11)", x.count(11), 20);
        KIT.due("judge(0, 0)", x.judge(0, 0), -1);
        x.sea(3);
        KIT.due("fault(0)", x.fault(0), 1);
        x.restore(0);
        KIT.due("fault(0)", x.fault(0), 1);
        KIT.due("fault(1)", x.fault(1), 0);
        // A refused one leaves what can be undone.
        x.tides(1);
        KIT.due("restore(1)", x.restore(1), -5);
        KIT.due("restore(2)", x.restore(2), -2);
        KIT.due("count(10)", x.count(10), 1);
    }

    private static void imagesOfAll() {
        KIT.says(40, "All that is in an IMAGE is as it was: 0. -2; -5: none was made.");
        BottlePost x = new BottlePost();
        x.tides(7);
        KIT.due("an image of no sea", x.image(0), 0);
        String full = "sea 6 6 tides 6;shore 0 0 throws east walks 5;shore 5 5 throws west walks 0 1;rock 3 3;"
            + "current 1 0 2 2 2 2 2 2;current 4 5 2 2 2 2 2 2;moon 30 springs 30;cork 99;wind : x + tide;keeps : age > 3;";
        KIT.due("sea", Kit.told(x, full), 10);
        for (int b = 0; b < 8; b++) {
            x.throwsIt(b % 2, b % 3 == 0 ? -1 : 1 - b % 2, b > 4);
        }
        x.tides(4);
        x.lift(0);
        BottlePost y = new BottlePost();
        x.image(1);
        Kit.told(y, full);
        for (int b = 0; b < 8; b++) {
            y.throwsIt(b % 2, b % 3 == 0 ? -1 : 1 - b % 2, b > 4);
        }
        y.tides(4);
        y.lift(0);
        KIT.due("restore(0)", x.restore(0), 0);
        for (int what = 0; what < 14; what++) {
            KIT.due("count(" + what + ") of no sea", x.count(what), what == 2 ? 1 : what == 7 ? 7 : 0);
        }
        KIT.due("cell(0) of no sea", x.cell(0), -2);
        Kit.told(x, TWO + "cork 1;moon 2 springs 2;wind : 1;");
        KIT.due("restore(1)", x.restore(1), 0);
        for (int what = 0; what < 14; what++) {
            KIT.due("count(" + what + ")", x.count(what), what == 10 ? 0 : y.count(what));
        }
        for (int b = 0; b < 8; b++) {
            for (int what = 0; what < 8; what++) {
                KIT.due("bottle(" + b + ", " + what + ")", x.bottle(b, what), y.bottle(b, what));
            }
            KIT.due("fate(" + b + ", 1)", x.fate(b, 1), y.fate(b, 1));
        }
        for (int k = 0; k < 36; k++) {
            KIT.due("cell(" + k + ")", x.cell(k), y.cell(k));
            KIT.due("wind(" + k + ", 9)", x.wind(k, 9), y.wind(k, 9));
        }
        KIT.due("best(0, 1, 0)", x.best(0, 1, 0), y.best(0, 1, 0));
    }

    private static void imagesRefused() {
        KIT.says(40, "-2; -5: none was made.");
        BottlePost x = Kit.sea(BACK);
        KIT.each("restore", -2, x::restore, Kit.LEAST, -1, 2, Kit.MOST);
        KIT.each("restore, none being made", -5, x::restore, 0, 1);
        x.image(0);
        KIT.each("restore", -2, x::restore, Kit.LEAST, -1, 2, Kit.MOST);
        KIT.due("restore(1)", x.restore(1), -5);
        KIT.due("restore(0)", x.restore(0), 0);
        KIT.due("restore(0) again", x.restore(0), 0);
    }

    private static void counts() {
        KIT.says(41, "NONE for others.");
        BottlePost x = new BottlePost();
        KIT.each("count", -1, x::count, Kit.LEAST, -2, -1, 14, 15, Kit.MOST);
        BottlePost y = Kit.sea(BACK);
        KIT.each("count", -1, y::count, Kit.LEAST, -2, -1, 14, 15, Kit.MOST);
    }

    private static void countsFull() {
        KIT.says(41, "0 WIDE, 1 HIGH, 2 PHASES, 3 SHORES, 4 BOTTLES thrown, 5 those AT SEA, 6 those KEPT, 7 TIDE, 8 PHASE, 9 MOON, 10 calls that can be UNDONE, 11 bytes on THE TAPE, 12 LINES, 13 rocks.");
        StringBuilder s = new StringBuilder("sea 6 6 tides 6;moon 30 springs 0;");
        for (int i = 0; i < 6; i++) {
            s.append("shore ").append(i).append(" 0 throws south walks 0 1 2 3 4 5;");
        }
        for (int i = 12; i < 36; i++) {
            s.append("rock ").append(i % 6).append(' ').append(i / 6).append(';');
        }
        s.append("current 0 1 1 1 1 1 1 1;current 1 1 3 3 3 3 3 3;");
        BottlePost x = new BottlePost();
        KIT.due("sea", Kit.told(x, s.toString()), 34);
        for (int b = 0; b < 8; b++) {
            x.throwsIt(b % 4, -1, true);
        }
        int[] first = {6, 6, 6, 6, 8, 8, 0, 0, 0, 0, 8, 0, 34, 24};
        for (int what = 0; what < 14; what++) {
            KIT.due("count(" + what + ")", x.count(what), first[what]);
        }
        x.tides(99);
        x.tides(50);
        x.lift(2);
        x.feed(0, 0, 0, 0, 0);
        // Two kept, two broken, one lifted, three at sea.
        int[] then = {6, 6, 6, 6, 8, 3, 2, 149, 5, 29, 10, 20, 34, 24};
        for (int what = 0; what < 14; what++) {
            KIT.due("count(" + what + ")", x.count(what), then[what]);
        }
        x.tides(1);
        KIT.due("count(8)", x.count(8), 0);
        KIT.due("count(9)", x.count(9), 0);
    }
}
