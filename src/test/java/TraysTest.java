/** Promises 36 to 41: trays, lists, images, counts. */
final class TraysTest {
    private static final Kit KIT = new Kit("TraysTest");
    /** A lane from shore 0 to shore 1, a rock below it. Cells 0 to 4, and 5 to 9 with the rock on 7. */
    private static final String LANE = "sea 5 2 tides 2;shore 0 0 throws east walks 0;shore 4 0 throws west walks 0 1;"
        + "rock 2 1;current 1 0 2 2;current 2 0 2 2;current 3 0 2 2;current 1 1 2 2;cork 9;";

    public static void main(String[] args) {
        numbers();
        writes();
        lists();
        images();
        imagesOfSeas();
        counts();
        KIT.end();
    }

    private static void numbers() {
        BottlePost x = new BottlePost();
        KIT.due("numbers(4, 0, 0)", x.numbers(4, 0, 0), -2);
        KIT.due("numbers(-1, 0, 0)", x.numbers(-1, 0, 0), -2);
        KIT.due("numbers(0, 4, 0)", x.numbers(0, 4, 0), -2);
        KIT.due("numbers(0, -1, 0)", x.numbers(0, -1, 0), -2);
        KIT.due("numbers(0, 4, 41)", x.numbers(0, 4, 41), -2);
        KIT.due("numbers(0, 0, 41)", x.numbers(0, 0, 41), -3);
        KIT.due("numbers(0, 0, -1)", x.numbers(0, 0, -1), -3);
        KIT.due("perform(0)", x.perform(0), -6);
        KIT.due("numbers(0, 0, 0)", x.numbers(0, 0, 0), 0);
        KIT.due("perform(0)", x.perform(0), 0);
        KIT.due("numbers(0, 3, 40)", x.numbers(0, 3, 40), 0);
        KIT.due("write(0, 39, 5)", x.write(0, 39, 5), 5);
        KIT.due("numbers(0, 0, 41)", x.numbers(0, 0, 41), -3);
        KIT.due("write(0, 38, long)", x.write(0, 38, Long.MIN_VALUE), Long.MIN_VALUE);
        KIT.due("write(0, 40, 5)", x.write(0, 40, 5), -7);
        KIT.due("write(3, 0, 5)", x.write(3, 0, 5), -6);
        // All are 0 in place of another one.
        Kit.tray(x, 1, 1, -1, -1, -1);
        KIT.due("numbers(1, 1, 3)", x.numbers(1, 1, 3), 0);
        KIT.due("perform(1)", x.perform(1), 0);
        x.numbers(1, 1, 1);
        x.numbers(1, 1, 3);
        KIT.due("judge(1, 0)", x.judge(1, 0), 0);
    }

    private static void writes() {
        BottlePost x = new BottlePost();
        KIT.due("write(0, 0, 1)", x.write(0, 0, 1), -6);
        KIT.due("write(4, 0, 1)", x.write(4, 0, 1), -2);
        KIT.due("write(-1, 0, 1)", x.write(-1, 0, 1), -2);
        long v = 0x123456789abcdef0L;
        long[][] due = {{(byte) 0xf0, 127, -128, -1, 0}, {(short) 0xdef0, 127, 128, -1, 256},
            {0x9abcdef0, 127, 128, -1, 256}, {v, 127, 128, -1, 256}};
        for (int sort = 0; sort < 4; sort++) {
            x.numbers(sort, sort, 2);
            KIT.due("write " + v, x.write(sort, 0, v), due[sort][0]);
            KIT.due("write 127", x.write(sort, 1, 127), due[sort][1]);
            KIT.due("write 128", x.write(sort, 1, 128), due[sort][2]);
            KIT.due("write -1", x.write(sort, 1, -1), due[sort][3]);
            KIT.due("write 256", x.write(sort, 1, 256), due[sort][4]);
            KIT.due("write behind", x.write(sort, 2, 1), -7);
            KIT.due("write ahead", x.write(sort, -1, 1), -7);
        }
        KIT.due("write 65536", x.write(1, 0, 65536), 0);
        KIT.due("write 32768", x.write(1, 0, 32768), -32768);
        KIT.due("write 1L << 31", x.write(2, 0, 1L << 31), Integer.MIN_VALUE);
        KIT.due("write 1L << 32", x.write(2, 0, 1L << 32), 0);
    }

    private static void lists() {
        BottlePost x = Kit.sea("sea 4 2 tides 2;shore 0 0 throws east walks 0;shore 3 0 throws south walks 0;"
            + "current 1 0 2 2;current 2 0 2 2;");
        KIT.due("lists(0, 0)", x.lists(0, 0), -2);
        x.throwsIt(0, 1, true);
        KIT.due("lists(0, 0)", x.lists(0, 0), -6);
        KIT.due("lists(4, 0)", x.lists(4, 0), -2);
        KIT.due("lists(-1, 0)", x.lists(-1, 0), -2);
        KIT.due("lists(0, 1)", x.lists(0, 1), -2);
        KIT.due("lists(0, -1)", x.lists(0, -1), -2);
        x.numbers(0, 0, 0);
        KIT.due("lists into none", x.lists(0, 0), 0);
        // 1, 2, 3, and NONE: as what was seen it tells of cells 1, 2 ago, and so on; as deeds, of numbers and a tide.
        x.numbers(0, 0, 2);
        KIT.due("lists(0, 0)", x.lists(0, 0), 2);
        x.tides(2);
        KIT.due("seen: cell 1, 2 ago", x.seen(0), 4);
        x.undo(1);
        x.numbers(1, 3, 5);
        KIT.due("lists(1, 0)", x.lists(1, 0), 5);
        KIT.due("judge: 1 is no throw", x.judge(1, 0), 0);
        KIT.due("count(7)", x.count(7), 0);
        x.lift(0);
        x.numbers(1, 0, 3);
        KIT.due("lists of what was lifted", x.lists(1, 0), 3);
        KIT.due("three tides", x.perform(1), 3);
        KIT.due("count(7)", x.count(7), 3);
        KIT.due("count(10)", x.count(10), 3);
    }

    private static void images() {
        BottlePost x = Kit.sea(LANE);
        KIT.due("restore(0)", x.restore(0), -5);
        KIT.due("restore(2)", x.restore(2), -2);
        KIT.due("restore(-1)", x.restore(-1), -2);
        KIT.due("image(2)", x.image(2), -2);
        KIT.due("image(-1)", x.image(-1), -2);
        x.throwsIt(0, 1, true);
        x.tides(1);
        KIT.due("image(1)", x.image(1), 0);
        KIT.due("count(10)", x.count(10), 2);
        KIT.due("restore(0)", x.restore(0), -5);
        KIT.due("count(10)", x.count(10), 2);
        x.tides(2);
        x.throwsIt(1, 0, false);
        KIT.due("image(0)", x.image(0), 0);
        KIT.due("restore(1)", x.restore(1), 0);
        KIT.due("count(4)", x.count(4), 1);
        KIT.due("count(7)", x.count(7), 1);
        KIT.due("count(10)", x.count(10), 0);
        KIT.due("undo(1)", x.undo(1), -3);
        KIT.due("bottle(0, 1)", x.bottle(0, 1), 2);
        KIT.due("bottle(0, 5)", x.bottle(0, 5), 1);
        x.lift(0);
        KIT.due("restore(0)", x.restore(0), 0);
        KIT.due("count(4)", x.count(4), 2);
        KIT.due("count(7)", x.count(7), 3);
        KIT.due("bottle(0, 0)", x.bottle(0, 0), 2);
        KIT.due("bottle(1, 1)", x.bottle(1, 1), 3);
        // An image stays as it was made, however often one goes back to it.
        x.tides(50);
        KIT.due("restore(0)", x.restore(0), 0);
        KIT.due("count(7)", x.count(7), 3);
        KIT.due("restore(1)", x.restore(1), 0);
        KIT.due("bottle(0, 0)", x.bottle(0, 0), 0);
    }

    private static void imagesOfSeas() {
        BottlePost x = new BottlePost();
        KIT.due("image(0)", x.image(0), 0);
        Kit.told(x, LANE);
        x.image(1);
        KIT.due("best(0, 1, 0)", x.best(0, 1, 0), 3);
        KIT.due("sea", Kit.told(x, "sea 3 3 tides 3;moon 4 springs 1;cork 1;wind : 1;keeps : 1 = 1;"
            + "shore 0 1 throws east walks 2;shore 2 1 throws west walks 0 1 2;current 1 1 0 0 2;"), 8);
        KIT.due("best(0, 1, 0)", x.best(0, 1, 0), 3);
        KIT.due("best(0, 1, 1)", x.best(0, 1, 1), 2);
        KIT.due("wind(0, 0)", x.wind(0, 0), 1);
        Kit.tray(x, 0, 1, 7);
        x.feed(0, 0, 0, 0, 0);
        KIT.due("restore(1)", x.restore(1), 0);
        KIT.due("count(0)", x.count(0), 5);
        KIT.due("count(12)", x.count(12), 9);
        KIT.due("count(11)", x.count(11), 20);
        KIT.due("cell(7)", x.cell(7), 1);
        KIT.due("wind(0, 0)", x.wind(0, 0), 0);
        KIT.due("best(0, 1, 0)", x.best(0, 1, 0), 3);
        KIT.due("best(0, 1, 1)", x.best(0, 1, 1), 0);
        KIT.due("the tray stays", x.judge(0, 0), 0);
        KIT.due("shore(1, 2)", x.shore(1, 2), 3);
        KIT.due("restore(0)", x.restore(0), 0);
        KIT.due("count(0)", x.count(0), 0);
        KIT.due("count(2)", x.count(2), 1);
        KIT.due("count(3)", x.count(3), 0);
        KIT.due("cell(0)", x.cell(0), -2);
        // A fault doesn't touch images, and its place stays told.
        x.sea(5);
        KIT.due("fault(0)", x.fault(0), 1);
        KIT.due("restore(1)", x.restore(1), 0);
        KIT.due("fault(0)", x.fault(0), 1);
        KIT.due("count(3)", x.count(3), 2);
    }

    private static void counts() {
        BottlePost x = Kit.sea("sea 5 2 tides 4;shore 0 0 throws east walks 0;shore 4 0 throws west walks 0 1 2 3;"
            + "rock 2 1;rock 3 1;current 3 0 2 2 2 2;moon 3 springs 0;");
        x.throwsIt(0, 1, true);
        x.throwsIt(1, -1, true);
        x.throwsIt(1, -1, true);
        x.throwsIt(0, 1, true);
        x.lift(3);
        x.tides(6);
        x.feed(0, 0, 0, 0, 0);
        int[] due = {5, 2, 4, 2, 4, 1, 2, 6, 2, 0, 6, 20, 7, 2};
        for (int what = 0; what < due.length; what++) {
            KIT.due("count(" + what + ")", x.count(what), due[what]);
        }
        KIT.due("count(14)", x.count(14), -1);
        KIT.due("count(-1)", x.count(-1), -1);
        x.tides(5);
        KIT.due("count(8)", x.count(8), 3);
        KIT.due("count(9)", x.count(9), 2);
    }
}
