/** Promises 9 to 17: bottles, throws, tides, storms, ships, undoing, told deeds, seasons. */
final class DeedsTest {
    private static final Kit KIT = new Kit("DeedsTest");
    /** A lane from shore 0 to shore 1, a rock below it. Cells 0 to 4, and 5 to 9 with the rock on 7. */
    private static final String LANE = "sea 5 2 tides 2;shore 0 0 throws east walks 0;shore 4 0 throws west walks 0 1;"
        + "rock 2 1;current 1 0 2 2;current 2 0 2 2;current 3 0 2 2;current 1 1 2 2;cork 9;";

    public static void main(String[] args) {
        bottles();
        throwing();
        drifting();
        springs();
        ages();
        winds();
        corks();
        finding();
        keepsLaw();
        storms();
        ships();
        undoing();
        judging();
        performing();
        seasons();
        KIT.end();
    }

    private static void bottle(BottlePost x, int b, int... due) {
        for (int what = 0; what < due.length; what++) {
            KIT.due("bottle(" + b + ", " + what + ")", x.bottle(b, what), due[what]);
        }
    }

    private static void bottles() {
        BottlePost x = Kit.sea(LANE);
        KIT.due("bottle(0, 0)", x.bottle(0, 0), -8);
        x.throwsIt(0, 1, true);
        x.throwsIt(1, -1, false);
        bottle(x, 0, 0, 1, 0, 1, 1, 0, 0, -1);
        bottle(x, 1, 0, 3, 1, -1, 0, 0, 0, -1);
        KIT.due("bottle(0, 8)", x.bottle(0, 8), -8);
        KIT.due("bottle(0, -1)", x.bottle(0, -1), -8);
        KIT.due("bottle(2, 0)", x.bottle(2, 0), -8);
        KIT.due("bottle(-1, 0)", x.bottle(-1, 0), -8);
        KIT.due("tides(1)", x.tides(1), 1);
        bottle(x, 0, 0, 2, 0, 1, 1, 1, 0, -1);
        bottle(x, 1, 2, 4, 1, -1, 0, 1, 0, 1);
        KIT.due("tides(5)", x.tides(5), 1);
        bottle(x, 0, 2, 4, 0, 1, 1, 3, 0, 1);
        bottle(x, 1, 2, 4, 1, -1, 0, 1, 0, 1);
    }

    private static void throwing() {
        BottlePost x = Kit.sea(LANE + "shore 0 1 throws west walks 0;shore 3 1 throws west walks 0;");
        KIT.due("throwsIt(-1, 0)", x.throwsIt(-1, 0, true), -11);
        KIT.due("throwsIt(4, 0)", x.throwsIt(4, 0, true), -11);
        KIT.due("throwsIt(0, 4)", x.throwsIt(0, 4, true), -11);
        KIT.due("throwsIt(0, -2)", x.throwsIt(0, -2, true), -11);
        KIT.due("throwsIt(0, 0)", x.throwsIt(0, 0, true), -11);
        KIT.due("throwsIt(2, 2)", x.throwsIt(2, 2, true), -11);
        KIT.due("throwsIt(2, 0) over the edge", x.throwsIt(2, 0, true), -12);
        KIT.due("throwsIt(3, -1) onto a rock", x.throwsIt(3, -1, true), -12);
        KIT.due("count(10)", x.count(10), 0);
        for (int b = 0; b < 8; b++) {
            KIT.due("throwsIt " + b, x.throwsIt(b % 2, b % 3 == 0 ? -1 : 1 - b % 2, b > 3), b);
        }
        KIT.due("a ninth", x.throwsIt(0, 1, true), -13);
        KIT.due("a ninth onto a rock", x.throwsIt(3, 1, true), -12);
        KIT.due("a ninth to itself", x.throwsIt(0, 0, true), -11);
        KIT.due("count(4)", x.count(4), 8);
        KIT.due("count(5)", x.count(5), 8);
        KIT.due("count(10)", x.count(10), 8);
    }

    private static void drifting() {
        BottlePost x = Kit.sea(LANE);
        KIT.due("tides(0)", x.tides(0), -3);
        KIT.due("tides(100)", x.tides(100), -3);
        KIT.due("tides(-1)", x.tides(-1), -3);
        KIT.due("tides(99)", x.tides(99), 0);
        KIT.due("count(7)", x.count(7), 99);
        KIT.due("count(8)", x.count(8), 1);
        KIT.due("count(9)", x.count(9), 0);
        // Onto a rock: there it is broken.
        x.throwsIt(0, 1, true);
        x.storm(1, 6);
        x.tides(3);
        bottle(x, 0, 3, 7, 0, 1, 1, 0, 0, -1);
        KIT.due("count(5)", x.count(5), 0);
        // Over the edge it doesn't go.
        x = Kit.sea("sea 2 2 tides 4;shore 0 0 throws east walks 0;current 1 0 1 2 1 2;");
        x.throwsIt(0, -1, true);
        x.tides(4);
        bottle(x, 0, 0, 1, 0, -1, 1, 4);
        // Each way, phase by phase.
        x = Kit.sea("sea 3 3 tides 4;shore 0 0 throws south walks 0;current 0 1 2 0 0 0;current 1 1 0 1 0 0;"
            + "current 1 0 0 0 3 0;");
        x.throwsIt(0, -1, true);
        int[] cells = {4, 1, 4, 4, 4};
        for (int k : cells) {
            x.tides(1);
            KIT.due("bottle(0, 1)", x.bottle(0, 1), k);
        }
    }

    private static void springs() {
        String sea = "sea 6 2 tides 1;shore 0 0 throws east walks 0;current 1 0 2;current 2 0 2;current 3 0 2;"
            + "current 4 0 2;";
        BottlePost x = Kit.sea(sea + "moon 3 springs 2;");
        x.throwsIt(0, -1, true);
        int[] cells = {3, 5, 5};
        for (int k : cells) {
            x.tides(1);
            KIT.due("bottle(0, 1)", x.bottle(0, 1), k);
        }
        KIT.due("count(9)", x.count(9), 0);
        // At springs the second step is by the current of the second cell; a shore ends the way.
        x = Kit.sea("sea 4 2 tides 1;shore 0 0 throws east walks 0;shore 2 0 throws east walks 0;current 1 0 2;"
            + "current 2 0 2;moon 2 springs 2;keeps : 1 = 1;");
        x.throwsIt(0, 1, true);
        KIT.due("tides(1)", x.tides(1), 1);
        bottle(x, 0, 2, 2, 0, 1, 1, 1, 0, 1);
        x = Kit.sea("sea 3 2 tides 1;shore 0 0 throws east walks 0;rock 1 1;current 1 0 3;current 1 1 2;"
            + "moon 2 springs 1;wind : 2;");
        x.throwsIt(0, -1, false);
        x.tides(1);
        bottle(x, 0, 3, 4, 0, -1, 0, 0);
    }

    /** The tide in which a bottle breaks is none of its age; those in which it lies, is found, sinks are. */
    private static void ages() {
        String lane = "sea 5 2 tides 1;shore 0 0 throws east walks 0;rock 4 0;current 1 0 2;current 2 0 2;";
        // By the current, in the third tide; it stays so.
        BottlePost x = Kit.sea(lane + "current 3 0 2;");
        x.throwsIt(0, -1, true);
        int[] ages = {1, 2, 2, 2};
        for (int age : ages) {
            x.tides(1);
            KIT.due("bottle(0, 5)", x.bottle(0, 5), age);
        }
        bottle(x, 0, 3, 4, 0, -1, 1, 2, 0, -1);
        x.undo(2);
        KIT.due("bottle(0, 5) undone", x.bottle(0, 5), 2);
        KIT.due("bottle(0, 0) undone", x.bottle(0, 0), 0);
        // By the wind, and by the second step at springs.
        x = Kit.sea(lane + "wind : 2 * x - 4;");
        x.throwsIt(0, -1, false);
        x.tides(9);
        KIT.due("bottle(0, 0) in the wind", x.bottle(0, 0), 3);
        KIT.due("bottle(0, 5) in the wind", x.bottle(0, 5), 1);
        x = Kit.sea(lane + "current 3 0 2;moon 2 springs 2;");
        x.throwsIt(0, -1, true);
        x.tides(2);
        bottle(x, 0, 3, 4, 0, -1, 1, 1);
        // A cork that gives way in the tide of breaking: it breaks.
        x = Kit.sea(lane + "current 3 0 2;cork 3;");
        x.throwsIt(0, -1, true);
        x.tides(3);
        bottle(x, 0, 3, 4, 0, -1, 1, 2);
        x = Kit.sea(lane + "current 3 0 2;cork 2;");
        x.throwsIt(0, -1, true);
        x.tides(3);
        bottle(x, 0, 4, 3, 0, -1, 1, 2);
        // One that lies grows older till it is found, and in that tide too.
        x = Kit.sea("sea 3 2 tides 3;shore 0 0 throws east walks 0;shore 2 0 throws south walks 2;current 1 0 2 0 0;");
        x.throwsIt(0, 1, true);
        int[] lying = {1, 2, 3, 3};
        for (int age : lying) {
            x.tides(1);
            KIT.due("bottle(0, 5) lying", x.bottle(0, 5), age);
        }
        KIT.due("bottle(0, 0) lay", x.bottle(0, 0), 2);
        // One that is lifted is as old as it was.
        x = Kit.sea(lane);
        x.throwsIt(0, -1, true);
        x.tides(2);
        x.lift(0);
        x.tides(2);
        KIT.due("bottle(0, 5) lifted", x.bottle(0, 5), 2);
    }

    private static void winds() {
        // The current first, then the wind of where it is then; heavy ones feel none.
        BottlePost x = Kit.sea("sea 3 3 tides 1;shore 0 0 throws east walks 0;current 1 0 2;wind : 3 * (x - 1);");
        x.throwsIt(0, -1, false);
        x.throwsIt(0, -1, true);
        x.tides(1);
        KIT.due("light", x.bottle(0, 1), 5);
        KIT.due("heavy", x.bottle(1, 1), 2);
        x.tides(1);
        KIT.due("light", x.bottle(0, 1), 8);
        KIT.due("heavy", x.bottle(1, 1), 2);
        // Modulo 5 from 0 on: -1 is 4, west.
        x = Kit.sea("sea 3 2 tides 2;shore 2 0 throws west walks 1;shore 0 0 throws east walks 1;wind : 0 - 1;");
        x.throwsIt(0, 1, false);
        KIT.due("tides(1)", x.tides(1), 0);
        bottle(x, 0, 1, 0);
        KIT.due("tides(1)", x.tides(1), 1);
        bottle(x, 0, 2, 0, 0, 1, 0, 2, 0, 1);
    }

    private static void corks() {
        BottlePost x = Kit.sea("sea 3 2 tides 1;shore 0 0 throws east walks 0;cork 50;cork 2;");
        x.throwsIt(0, -1, true);
        x.tides(1);
        bottle(x, 0, 0, 1, 0, -1, 1, 1);
        x.tides(1);
        bottle(x, 0, 4, 1, 0, -1, 1, 2);
        x.tides(1);
        bottle(x, 0, 4, 1, 0, -1, 1, 2);
        // What lies doesn't sink, however old it grows; passed on, it has the rest of one tide.
        x = Kit.sea("sea 4 2 tides 3;shore 0 0 throws east walks 2;shore 3 0 throws north walks 0;current 1 0 4 0 0;"
            + "cork 2;");
        x.throwsIt(0, 1, true);
        x.tides(2);
        bottle(x, 0, 1, 0, 0, 1, 1, 2, 0);
        x.tides(1);
        bottle(x, 0, 0, 1, 0, 1, 1, 3, 1);
        x.tides(2);
        bottle(x, 0, 1, 0, 0, 1, 1, 5, 1);
        // On the very tide on which it lands it doesn't sink either.
        x = Kit.sea("sea 3 2 tides 1;shore 0 0 throws east walks 0;shore 2 0 throws west walks 0;current 1 0 2;cork 1;");
        x.throwsIt(0, 1, true);
        KIT.due("tides(1)", x.tides(1), 1);
    }

    private static void finding() {
        // Shore 1 can't throw on: what isn't for it lies still, and is passed on all the same.
        BottlePost x = Kit.sea("sea 3 2 tides 2;shore 0 0 throws east walks 0;shore 2 0 throws east walks 1;"
            + "shore 0 1 throws east walks 0;current 1 0 2 2;");
        x.throwsIt(0, 2, true);
        x.throwsIt(0, 1, true);
        x.throwsIt(0, -1, true);
        KIT.due("tides(1)", x.tides(1), 0);
        bottle(x, 0, 1, 2, 0, 2, 1, 1, 0, -1);
        KIT.due("tides(1)", x.tides(1), 2);
        bottle(x, 0, 1, 2, 0, 2, 1, 2, 1, -1);
        bottle(x, 1, 2, 2, 0, 1, 1, 2, 0, 1);
        bottle(x, 2, 2, 2, 0, -1, 1, 2, 0, 1);
        KIT.due("tides(4)", x.tides(4), 0);
        bottle(x, 0, 1, 2, 0, 2, 1, 6, 3, -1);
        KIT.due("lift(0)", x.lift(0), -12);
        // Its own shore finds it and passes it on, too.
        x = Kit.sea("sea 3 2 tides 1;shore 0 0 throws east walks 0;shore 2 1 throws west walks 0;current 1 0 4;");
        x.throwsIt(0, 1, true);
        x.tides(3);
        bottle(x, 0, 0, 1, 0, 1, 1, 3, 3, -1);
    }

    private static void kept(String law, int from, int to, boolean heavy, int after) {
        BottlePost x = Kit.sea("sea 5 2 tides 2;shore 1 0 throws east walks 0 1;shore 3 0 throws west walks 0 1;"
            + "shore 0 1 throws east walks 0;current 2 0 2 4;keeps : " + law + ";");
        x.throwsIt(from, to, heavy);
        for (int i = 1; i <= 5; i++) {
            x.tides(1);
            KIT.due(law + " after " + i, x.bottle(0, 0), i >= after ? 2 : 0);
        }
    }

    private static void keepsLaw() {
        // From cell 2 it comes to shore 1 in the tides of phase 0, to shore 0 in those of phase 1, and back each time.
        kept("1 = 2", 0, 2, true, 99);
        kept("1 = 1", 0, 2, true, 1);
        kept("finder = 0", 0, 2, true, 2);
        kept("from = finder", 0, 2, true, 2);
        kept("from = finder", 1, 2, true, 1);
        kept("to = 2 and age > 2", 0, 2, true, 3);
        kept("passed = 3", 0, 2, true, 4);
        kept("passed > 0 and tide = 0", 0, 2, true, 3);
        kept("heavy = 1", 0, 2, true, 1);
        kept("heavy = 1", 0, 2, false, 99);
        kept("heavy = 0 and age * 2 - 1 > 4", 0, 2, false, 3);
        kept("1 = 1 or 1 = 1 and 1 = 2", 0, 2, true, 1);
        kept("[1 = 1 or 1 = 1] and 1 = 2", 0, 2, true, 99);
        kept("not age < 4", 0, 2, true, 4);
        kept("not 1 = 2 and age = 2", 0, 2, true, 2);
        kept("not [1 = 2 and age = 2]", 0, 2, true, 1);
        kept("not not age = 3", 0, 2, true, 3);
        kept("1 = 1; keeps : age = 5", 0, 2, true, 5);
        kept("999 * 999 * 2 = 999 * 999 * 3", 0, 2, true, 1);
        kept("1 = 2", 0, -1, true, 1);
        kept("1 = 2", 1, 0, true, 2);
    }

    private static void storms() {
        BottlePost x = Kit.sea(LANE);
        KIT.due("storm(1, 1)", x.storm(1, 1), -2);
        KIT.due("storm(-1, 1)", x.storm(-1, 1), -2);
        KIT.due("storm(1, 10)", x.storm(1, 10), -2);
        KIT.due("storm(7, 7)", x.storm(7, 7), -2);
        KIT.due("storm(1, 7)", x.storm(1, 7), -5);
        KIT.due("storm(0, 1)", x.storm(0, 1), -5);
        KIT.due("storm(1, 2)", x.storm(1, 2), 0);
        KIT.due("count(10)", x.count(10), 0);
        x.throwsIt(0, -1, true);
        x.throwsIt(0, -1, true);
        x.throwsIt(1, -1, true);
        KIT.due("storm(3, 1)", x.storm(3, 1), 3);
        KIT.due("bottle(0, 1)", x.bottle(0, 1), 3);
        KIT.due("bottle(1, 1)", x.bottle(1, 1), 3);
        KIT.due("bottle(2, 1)", x.bottle(2, 1), 1);
        KIT.due("storm(1, 5)", x.storm(1, 5), 1);
        KIT.due("bottle(2, 1)", x.bottle(2, 1), 5);
        KIT.due("count(10)", x.count(10), 5);
        x.lift(2);
        KIT.due("storm(5, 6)", x.storm(5, 6), 0);
        KIT.due("bottle(2, 1)", x.bottle(2, 1), 5);
        KIT.due("count(10)", x.count(10), 6);
    }

    private static void ships() {
        BottlePost x = Kit.sea(LANE);
        KIT.due("lift(0)", x.lift(0), -11);
        KIT.due("lift(-1)", x.lift(-1), -11);
        x.throwsIt(0, 1, true);
        x.tides(1);
        KIT.due("lift(0)", x.lift(0), 2);
        bottle(x, 0, 5, 2, 0, 1, 1, 1, 0, -1);
        KIT.due("lift(0)", x.lift(0), -12);
        KIT.due("lift(1)", x.lift(1), -11);
        x.tides(9);
        bottle(x, 0, 5, 2, 0, 1, 1, 1, 0, -1);
        KIT.due("count(5)", x.count(5), 0);
    }

    private static void undoing() {
        BottlePost x = Kit.sea(LANE);
        KIT.due("undo(1)", x.undo(1), -3);
        x.throwsIt(0, 1, true);
        x.tides(1);
        x.storm(2, 9);
        x.lift(0);
        KIT.due("undo(0)", x.undo(0), -3);
        KIT.due("undo(5)", x.undo(5), -3);
        KIT.due("undo(11)", x.undo(11), -3);
        KIT.due("undo(-1)", x.undo(-1), -3);
        KIT.due("undo(1)", x.undo(1), 3);
        bottle(x, 0, 0, 9, 0, 1, 1, 1);
        KIT.due("undo(2)", x.undo(2), 1);
        bottle(x, 0, 0, 1, 0, 1, 1, 0);
        KIT.due("count(7)", x.count(7), 0);
        KIT.due("undo(1)", x.undo(1), 0);
        KIT.due("count(4)", x.count(4), 0);
        // The eldest are forgotten.
        for (int i = 1; i <= 13; i++) {
            x.tides(i);
        }
        KIT.due("count(10)", x.count(10), 10);
        KIT.due("undo(10)", x.undo(10), 0);
        KIT.due("count(7)", x.count(7), 6);
        KIT.due("undo(1)", x.undo(1), -3);
        // What was undone makes room again.
        for (int i = 0; i < 25; i++) {
            x.tides(1);
            x.tides(2);
            x.undo(1);
        }
        KIT.due("count(7)", x.count(7), 31);
        KIT.due("undo(9)", x.undo(9), 0);
        KIT.due("count(7)", x.count(7), 22);
    }

    private static void judge(BottlePost x, int tray, int... due) {
        for (int what = 0; what < 4; what++) {
            KIT.due("judge(" + tray + ", " + what + ")", x.judge(tray, what), due[what]);
        }
    }

    private static void judging() {
        BottlePost x = Kit.sea(LANE + "shore 0 1 throws west walks 0;");
        KIT.due("judge(0, 0)", x.judge(0, 0), -6);
        KIT.due("judge(0, 4)", x.judge(0, 4), -2);
        KIT.due("judge(0, -1)", x.judge(0, -1), -2);
        KIT.due("judge(4, 0)", x.judge(4, 0), -2);
        KIT.due("judge(-1, 0)", x.judge(-1, 0), -2);
        Kit.tray(x, 0, 1);
        judge(x, 0, -1, 0, 0, 0);
        Kit.tray(x, 0, 1, 11, -1, -1, -1, 90, 1001);
        judge(x, 0, -1, 0, 2, 1);
        KIT.due("count(4)", x.count(4), 0);
        KIT.due("count(7)", x.count(7), 0);
        long[] one = {2, 9, 19, 300, 30, 80, 0, 110, 1000, 1007, 1008, 9999, -2, Long.MIN_VALUE, Long.MAX_VALUE,
            4294967295L, 980, 911};
        for (long deed : one) {
            Kit.tray(x, 1, 3, -1, deed, 10);
            judge(x, 1, 1, 1, 0, 0);
        }
        Kit.tray(x, 1, 1, 10, 200, 10);
        judge(x, 1, 1, 2, 1, 0);
        Kit.tray(x, 1, 1, 90, -1, -1, -1, 1000);
        judge(x, 1, 4, 2, 1, 1);
        Kit.tray(x, 1, 1, 10, 11, 90, 91, 100, 101, 120, 121, 1007, 190);
        judge(x, 1, 9, 3, 8, 0);
        // With bottles that are there already.
        x.throwsIt(0, 1, true);
        x.throwsIt(1, -1, true);
        x.tides(1);
        Kit.tray(x, 2, 0, -1, -1, 100);
        judge(x, 2, -1, 0, 3, 2);
        KIT.due("count(6)", x.count(6), 1);
        KIT.due("count(10)", x.count(10), 3);
    }

    private static void performing() {
        BottlePost x = Kit.sea(LANE);
        KIT.due("perform(0)", x.perform(0), -6);
        KIT.due("perform(4)", x.perform(4), -2);
        KIT.due("perform(-1)", x.perform(-1), -2);
        Kit.tray(x, 0, 1);
        KIT.due("perform of none", x.perform(0), 0);
        Kit.tray(x, 0, 1, 20, -1);
        KIT.due("perform of what can't be", x.perform(0), 0);
        KIT.due("count(10)", x.count(10), 0);
        Kit.tray(x, 0, 1, 11, -1, 190, 1001, 1001, -1, -1);
        KIT.due("perform till one can't be", x.perform(0), 4);
        KIT.due("count(4)", x.count(4), 2);
        KIT.due("count(7)", x.count(7), 1);
        bottle(x, 0, 0, 2, 0, 1, 1, 1, 0, -1);
        bottle(x, 1, 5, 3, 1, -1, 0, 0, 0, -1);
        KIT.due("undo(1)", x.undo(1), 0);
        KIT.due("count(4)", x.count(4), 0);
        KIT.due("count(7)", x.count(7), 0);
        Kit.tray(x, 0, 0, -1, 255, 511);
        KIT.due("perform of bytes", x.perform(0), 3);
        KIT.due("count(7)", x.count(7), 3);
    }

    private static void seasons() {
        BottlePost x = Kit.sea("sea 3 2 tides 1;");
        KIT.due("season(1, 1)", x.season(1, 1), -5);
        KIT.due("season(1, 0)", x.season(1, 0), -3);
        KIT.due("season(1, 41)", x.season(1, 41), -3);
        // The draws are made here once more, and done by single calls on a second object.
        for (int seed = -20; seed < 20; seed++) {
            x = Kit.sea(LANE + "shore 3 1 throws south walks 0;");
            BottlePost y = Kit.sea(LANE + "shore 3 1 throws south walks 0;");
            int start = seed * 123456789;
            int times = 1 + Math.floorMod(seed * 7, 40);
            KIT.due("season(" + start + ", " + times + ")", x.season(start, times), single(y, start, times));
            for (int what = 4; what < 10; what++) {
                KIT.due("count(" + what + ")", x.count(what), y.count(what));
            }
            for (int b = 0; b < 8; b++) {
                for (int what = 0; what < 8; what++) {
                    KIT.due("bottle(" + b + ", " + what + ")", x.bottle(b, what), y.bottle(b, what));
                }
            }
            KIT.due("count(10)", x.count(10), y.count(10) > 0 ? 1 : 0);
        }
    }

    private static int single(BottlePost y, int seed, int times) {
        int[] x = {seed};
        int could = 0;
        for (int i = 0; i < times; i++) {
            int kind = draw(x) % 4;
            int answer;
            if (kind < 2) {
                answer = y.tides(1);
            } else if (kind == 2) {
                int from = draw(x) % 3;
                int to = draw(x) % 3;
                answer = y.throwsIt(from, from == to ? -1 : to, draw(x) % 2 == 1);
            } else {
                answer = y.lift(draw(x) % 8);
            }
            could += answer < 0 ? 0 : 1;
        }
        return could;
    }

    private static int draw(int[] x) {
        x[0] = (int) (1103515245L * x[0] + 12345);
        return x[0] >>> 16;
    }
}
