import java.util.Arrays;

/** Boundary cases of bottles, tides and deeds, promises 9 to 17, each under the sentence that names it. */
final class DeedsBoundsTest {
    private static final Kit KIT = new Kit("DeedsBoundsTest");
    /** Shore 0 throws onto cell 1, from where it goes east to shore 1, who walk at phase 1 alone. */
    private static final String PAIR = "sea 3 2 tides 2;shore 0 0 throws east walks 0;shore 2 0 throws west walks 1;"
        + "current 1 0 2 2;";
    /** Six shores in a row, each throws south onto still water. */
    private static final String SIX = "sea 6 3 tides 1;shore 0 0 throws south walks 0;shore 1 0 throws south walks 0;"
        + "shore 2 0 throws south walks 0;shore 3 0 throws south walks 0;shore 4 0 throws south walks 0;"
        + "shore 5 0 throws south walks 0;";
    /** What shore 0 throws breaks, what 2 and 3 throw comes back to them; 1 and 4 throw onto still water. */
    private static final String ENDS = "sea 6 3 tides 1;shore 0 0 throws south walks 0;shore 1 0 throws south walks 0;"
        + "shore 2 0 throws south walks 0;shore 3 0 throws south walks 0;shore 5 0 throws south walks 0;rock 0 2;"
        + "current 0 1 3;current 2 1 1;current 3 1 1;";
    /** In two tides what 0 throws is broken, what 2 throws lies, 3 keeps its own, 1's sinks and 4's too, if no ship comes. */
    private static final String ALL_SIX = "sea 6 3 tides 2;shore 0 0 throws south walks 0;shore 1 0 throws south walks 0;"
        + "shore 2 0 throws south walks 0;shore 3 0 throws south walks 0 1;shore 5 0 throws south walks 0;"
        + "rock 0 2;current 0 1 3 3;current 2 1 0 1;current 3 1 1 1;cork 2;";

    public static void main(String[] args) {
        thrownBeside();
        eightAtMost();
        agesAndPasses();
        tidePhaseMoon();
        lastOf512Calls();
        springsAgain();
        edges();
        noFurther();
        corks();
        found();
        passedOn();
        kept();
        keptFromAMillion();
        words();
        bottles();
        noSuchBottle();
        throwing();
        tides();
        storms();
        stormsRefused();
        lifting();
        undoneAsAWhole();
        undoneByOneDeed();
        undoneIsGone();
        tenAtMost();
        undoRefused();
        deeds();
        deedsThatCannotBe();
        judged();
        judgedFull();
        performed();
        seasonsRefused();
        seasons();
        KIT.covers(9, 17);
        KIT.end();
    }

    private static void bottle(BottlePost x, int b, int... due) {
        for (int what = 0; what < due.length; what++) {
            KIT.due("bottle(" + b + ", " + what + ")", x.bottle(b, what), due[what]);
        }
    }

    private static void thrownBeside() {
        KIT.says(0, "it comes to the CELL beside that way (open sea).");
        String[] ways = {"north", "east", "south", "west"};
        int[] cells = {1, 5, 7, 3};
        for (int i = 0; i < 4; i++) {
            BottlePost x = Kit.sea("sea 3 3 tides 1;shore 1 1 throws " + ways[i] + " walks 0;");
            KIT.due("throwsIt " + ways[i], x.throwsIt(0, -1, false), 0);
            bottle(x, 0, 0, cells[i], 0, -1, 0, 0, 0, -1);
        }
    }

    private static void eightAtMost() {
        KIT.says(0, "BOTTLES are numbered from 0 on as they are thrown, 8 at most.");
        BottlePost x = Kit.sea(SIX);
        for (int b = 0; b < 8; b++) {
            KIT.due("throwsIt " + b, x.throwsIt(b % 6, -1, b % 2 == 0), b);
            KIT.due("count(4)", x.count(4), b + 1);
            KIT.due("its from", x.bottle(b, 2), b % 6);
            KIT.due("no more than that", x.bottle(b + 1, 0), -8);
        }
        KIT.due("a 9th", x.throwsIt(0, -1, true), -13);
        // One that is lifted was thrown all the same.
        x.lift(0);
        KIT.due("a 9th, the first being lifted", x.throwsIt(0, -1, true), -13);
        x.undo(2);
        KIT.due("the 8th undone", x.throwsIt(5, 0, true), 7);
        KIT.due("its to", x.bottle(7, 3), 0);
    }

    private static void agesAndPasses() {
        KIT.says(0, "AGE: TIDES since it was thrown, as long as it is AT SEA, or LIES; PASSED: how often it was passed on.");
        // At sea for ever, and lying for ever where it is passed on each tide.
        BottlePost x = Kit.sea("sea 3 3 tides 1;shore 0 0 throws east walks 0;shore 2 1 throws east walks 0;"
            + "shore 2 2 throws west walks 0;current 2 0 3;");
        x.throwsIt(0, -1, true);
        x.storm(1, 3);
        x.throwsIt(0, 2, true);
        x.storm(1, 2);
        for (int i = 1; i <= 3; i++) {
            x.tides(99);
            bottle(x, 0, 0, 3, 0, -1, 1, 99 * i, 0, -1);
            bottle(x, 1, 1, 5, 0, 2, 1, 99 * i, 99 * i, -1);
        }
        // No longer then: broken, sunk, kept, lifted. The one passed on is at sea, but in no tide behind its drifting.
        x = Kit.sea(ENDS + "cork 2;");
        for (int s = 0; s < 5; s++) {
            x.throwsIt(s, s == 3 ? 0 : -1, true);
        }
        x.tides(1);
        x.lift(4);
        x.tides(99);
        int[] ages = {0, 2, 1, 100, 1};
        int[] states = {3, 4, 2, 0, 5};
        for (int b = 0; b < 5; b++) {
            KIT.due("what " + b + " is", x.bottle(b, 0), states[b]);
            KIT.due("the age of " + b, x.bottle(b, 5), ages[b]);
        }
    }

    private static void tidePhaseMoon() {
        KIT.says(0, "A TIDE (TIDE 0 at first; PHASE: TIDE modulo PHASES; MOON: TIDE modulo moon, 0 without)");
        BottlePost x = Kit.sea("sea 2 2 tides 6;moon 30 springs 0;");
        BottlePost y = Kit.sea("sea 2 2 tides 6;");
        for (int tide = 0; tide < 65; tide++) {
            KIT.due("count(7)", x.count(7), tide);
            KIT.due("count(8)", x.count(8), tide % 6);
            KIT.due("count(9)", x.count(9), tide % 30);
            KIT.due("count(9) without a moon", y.count(9), 0);
            x.tides(1);
            y.tides(1);
        }
        // The current of the phase, which comes round again.
        x = Kit.sea("sea 6 6 tides 6;shore 0 0 throws east walks 0;current 1 0 0 0 0 0 0 2;current 2 0 3 0 0 0 0 0;");
        x.throwsIt(0, -1, true);
        int[] cells = {1, 1, 1, 1, 1, 2, 8, 8};
        for (int k : cells) {
            x.tides(1);
            KIT.due("bottle(0, 1)", x.bottle(0, 1), k);
        }
    }

    private static void lastOf512Calls() {
        KIT.says(0, "An object is used for at most 512 calls after it has been made");
        String sea = PAIR + "moon 7 springs 0;wind : 3;";
        BottlePost x = Kit.sea(sea);
        int calls = Kit.twenties(Kit.bytes(sea)).length + 1;
        KIT.due("throwsIt", x.throwsIt(0, -1, false), 0);
        KIT.due("storm(1, 4)", x.storm(1, 4), 1);
        calls += 2;
        int tide = 0;
        for (; calls < 507; calls++) {
            KIT.due("tides(99)", x.tides(99), 0);
            tide += 99;
        }
        KIT.due("the 508th", x.count(7), tide);
        KIT.due("the 509th", x.count(8), tide % 2);
        KIT.due("the 510th", x.count(9), tide % 7);
        KIT.due("the 511th", x.bottle(0, 5), tide);
        KIT.due("the 512th", x.undo(10), 0);
    }

    private static void springsAgain() {
        KIT.says(0, "(at springs again, by that of where it is then)");
        String lane = "sea 6 2 tides 1;shore 0 0 throws east walks 0;current 1 0 2;current 2 0 3;current 2 1 2;";
        BottlePost x = Kit.sea(lane + "moon 3 springs 2;");
        x.throwsIt(0, -1, true);
        int[] cells = {8, 9, 9};
        for (int k : cells) {
            x.tides(1);
            KIT.due("bottle(0, 1)", x.bottle(0, 1), k);
        }
        // Against the edge the first time, it is again the same cell's; back and forth is as if there were none.
        x = Kit.sea("sea 3 2 tides 1;shore 0 0 throws east walks 0;current 1 0 1;moon 2 springs 2;");
        x.throwsIt(0, -1, true);
        x.tides(1);
        bottle(x, 0, 0, 1);
        x = Kit.sea("sea 4 2 tides 1;shore 0 0 throws east walks 0;current 1 0 2;current 2 0 4;moon 2 springs 2;");
        x.throwsIt(0, -1, true);
        x.tides(1);
        bottle(x, 0, 0, 1);
    }

    private static void edges() {
        KIT.says(0, "Over the edge it doesn't go");
        int[] cells = {1, 1, 2, 2};
        for (int way = 1; way <= 4; way++) {
            // By the current, and by the wind: row by row no way leads from one to the next.
            int shore = way < 3 ? 0 : 1;
            String sea = "sea 2 2 tides 1;shore 0 0 throws east walks 0;shore 1 1 throws west walks 0;";
            BottlePost x = Kit.sea(sea + "current 1 0 " + way + ";current 0 1 " + way + ";moon 2 springs 2;");
            x.throwsIt(shore, -1, true);
            x.tides(5);
            bottle(x, 0, 0, cells[way - 1], shore, -1, 1, 5);
            x = Kit.sea(sea + "wind : " + way + ";");
            x.throwsIt(shore, -1, false);
            x.tides(5);
            bottle(x, 0, 0, cells[way - 1], shore, -1, 0, 5);
        }
    }

    private static void noFurther() {
        KIT.says(0, "onto a rock: it is BROKEN; onto a SHORE: it LIES there; it goes no further in this TIDE then.");
        for (int step = 1; step <= 3; step++) {
            // By its current, by its second one, by the wind: onto a shore or a rock, from where all would lead on.
            String sea = "sea 6 2 tides 2;shore 0 0 throws east walks 1;" + (step == 2 ? "current 2 0 2 2;" : "")
                + "current 3 0 2 2;current 1 0 " + (step == 3 ? "0 0" : "2 2") + ";moon 2 springs 2;wind : 2;";
            int goal = step == 2 ? 3 : 2;
            BottlePost x = Kit.sea(sea + "shore " + goal + " 0 throws south walks 1;");
            x.throwsIt(0, 1, false);
            KIT.due("tides(1)", x.tides(1), 0);
            KIT.due("it lies, by step " + step, x.bottle(0, 0), 1);
            KIT.due("there, by step " + step, x.bottle(0, 1), goal);
            x = Kit.sea(sea + "rock " + goal + " 0;");
            x.throwsIt(0, -1, false);
            x.tides(1);
            KIT.due("it is broken, by step " + step, x.bottle(0, 0), 3);
            KIT.due("there, by step " + step, x.bottle(0, 1), goal);
            x.tides(9);
            KIT.due("there for ever", x.bottle(0, 1), goal);
        }
    }

    private static void corks() {
        KIT.says(0, "AGE is 1 more (who LIES, too). Who is AT SEA then with AGE cork or more is SUNK.");
        for (int cork : new int[] {1, 2, 50, 99}) {
            BottlePost x = Kit.sea(SIX + "cork " + cork + ";");
            x.throwsIt(0, -1, true);
            for (int tide = 1; tide < cork; tide++) {
                x.tides(1);
                KIT.due("at sea by cork " + cork, x.bottle(0, 0), 0);
            }
            x.tides(1);
            bottle(x, 0, 4, 6, 0, -1, 1, cork, 0, -1);
        }
        // Who lies then isn't at sea; passed on, it is older than the cork, and sinks by the next tide.
        BottlePost x = Kit.sea("sea 3 2 tides 4;shore 0 0 throws east walks 3;shore 2 1 throws north walks 0;"
            + "current 1 0 4 0 0 0;cork 1;");
        x.throwsIt(0, 1, true);
        x.tides(3);
        bottle(x, 0, 1, 0, 0, 1, 1, 3, 0);
        x.tides(1);
        bottle(x, 0, 0, 1, 0, 1, 1, 4, 1);
        x.tides(1);
        bottle(x, 0, 1, 0, 0, 1, 1, 5, 1);
        x.tides(3);
        bottle(x, 0, 0, 1, 0, 1, 1, 8, 2);
        x.storm(1, 4);
        x.tides(1);
        bottle(x, 0, 4, 4, 0, 1, 1, 9, 2);
    }

    private static void found() {
        KIT.says(0, "Then BOTTLES that LIE where people walk at this PHASE are found");
        for (int walks = 0; walks < 3; walks++) {
            // It comes to the shore in the tide of phase 0.
            BottlePost x = Kit.sea("sea 3 2 tides 3;shore 0 0 throws east walks 0;shore 2 0 throws west walks " + walks
                + ";current 1 0 2 2 2;");
            x.throwsIt(0, -1, true);
            for (int tide = 0; tide < 3; tide++) {
                KIT.due("tides(1) at phase " + tide, x.tides(1), tide == walks ? 1 : 0);
                KIT.due("bottle(0, 0)", x.bottle(0, 0), tide < walks ? 1 : 2);
            }
            KIT.due("its age", x.bottle(0, 5), walks + 1);
        }
    }

    private static void passedOn() {
        KIT.says(0, "else PASSED on: PASSED is 1 more, it comes to the CELL that way, if that is open sea, else it LIES still (PASSED 1 more all the same).");
        String[] beyond = {"", "rock 3 0;", "shore 3 0 throws east walks 0;"};
        for (int i = 0; i < 3; i++) {
            BottlePost x = Kit.sea("sea 4 2 tides 1;shore 0 0 throws east walks 0;shore 2 0 throws east walks 0;"
                + "shore 0 1 throws east walks 0;current 1 0 2;" + beyond[i]);
            x.throwsIt(0, 2, true);
            for (int tide = 1; tide < 4; tide++) {
                KIT.due("tides(1)", x.tides(1), 0);
                // On open sea beyond it stays; else it is found where it lies, tide by tide.
                bottle(x, 0, i == 0 ? 0 : 1, i == 0 ? 3 : 2, 0, 2, 1, tide, i == 0 ? 1 : tide, -1);
            }
        }
        BottlePost x = Kit.sea("sea 3 2 tides 1;shore 0 0 throws east walks 0;shore 2 0 throws east walks 0;"
            + "shore 0 1 throws east walks 0;current 1 0 2;");
        x.throwsIt(0, 2, true);
        x.tides(2);
        KIT.says(0, "else it LIES still (PASSED 1 more all the same)");
        bottle(x, 0, 1, 2, 0, 2, 1, 2, 2, -1);
    }

    private static void kept() {
        KIT.says(0, "KEPT, if it is to this SHORE, to whom it may, or the law keeps holds");
        String sea = "sea 3 2 tides 1;shore 0 0 throws east walks 0;shore 2 0 throws south walks 0;"
            + "shore 0 1 throws east walks 0;current 1 0 2;";
        int[] to = {1, -1, 2};
        String[] laws = {"", "keeps : 1 = 2;", "keeps : 1 = 1;"};
        for (int i = 0; i < 9; i++) {
            BottlePost x = Kit.sea(sea + laws[i / 3]);
            x.throwsIt(0, to[i % 3], true);
            boolean keeps = i % 3 < 2 || i / 3 == 2;
            KIT.due("tides(1), to " + to[i % 3] + " " + laws[i / 3], x.tides(1), keeps ? 1 : 0);
            KIT.due("bottle(0, 7)", x.bottle(0, 7), keeps ? 1 : -1);
            KIT.due("bottle(0, 6)", x.bottle(0, 6), keeps ? 0 : 1);
        }
        KIT.says(0, "TIDE is 1 more.");
        BottlePost x = Kit.sea(sea);
        x.tides(1);
        KIT.due("count(7)", x.count(7), 1);
    }

    /** Whether a law keeps a bottle from shore 0 to shore 2 that shore 1 finds in the first tide. */
    private static void holds(String law, boolean due) {
        BottlePost x = Kit.sea("sea 3 2 tides 1;shore 0 0 throws east walks 0;shore 2 0 throws south walks 0;"
            + "shore 0 1 throws east walks 0;current 1 0 2;keeps : " + law + ";");
        x.throwsIt(0, 2, true);
        KIT.due("whether " + law, x.tides(1), due ? 1 : 0);
    }

    private static void keptFromAMillion() {
        KIT.says(0, "In both laws each + - * is kept from -1,000,000 to 1,000,000.");
        String most = "(999 * 999 + 999 + 999 + 1)";
        String least = "(0 - 999 * 999 - 999 - 999 - 1)";
        holds(most + " = 999 * 999 * 2", true);
        holds(most + " + 1 = " + most, true);
        holds(most + " - 1 = " + most, false);
        holds(most + " - 1 + 1 = " + most, true);
        holds(most + " + 1 - 1 = " + most, false);
        holds(most + " - 1 + 2 - 1 < " + most, true);
        holds(most + " * 2 = " + most + " * 3", true);
        holds(least + " - 1 = " + least, true);
        holds(least + " + 1 = " + least, false);
        holds(least + " + 1 - 1 = " + least, true);
        holds(least + " - 1 + 1 > " + least, true);
        holds(least + " * 2 = " + least, true);
        holds(least + " * " + least + " = " + most, true);
        holds(least + " * " + most + " = " + least, true);
        holds(least + " + " + most + " = 0", true);
        holds(most + " - " + least + " = " + most, true);
        holds(least + " < " + most, true);
        // Each step of a longer one, from left to right.
        holds(most + " + " + most + " - " + most + " = 0", true);
        holds("999 * 999 * 999 * 999 - 999 * 999 * 999 = 0", true);
        int[] due = {0, 4, 0, 1, 0, 1};
        String[] sums = {most, most + " - 1", most + " + 1", least + " + 1", least, least + " - 1 + 1"};
        for (int i = 0; i < sums.length; i++) {
            BottlePost x = Kit.sea("sea 2 2 tides 1;wind : " + sums[i] + ";");
            KIT.due("wind by " + sums[i], x.wind(0, 0), due[i]);
        }
    }

    private static void words() {
        KIT.says(0, "(from, to, finder: SHORES by numbers; age: AGE, passed, heavy: 1, 0; tide: PHASE; without it: not)");
        holds("from = 0 and to = 2 and finder = 1", true);
        holds("age = 1", true);
        holds("age < 1 or age > 1", false);
        holds("passed = 0", true);
        holds("heavy = 1", true);
        holds("tide = 0", true);
        holds("1 < 1 or 1 > 1", false);
        holds("not 1 = 1 or not 1 < 2 or not 2 > 1", false);
        holds("not 1 = 2 and not 1 < 1 and not 1 > 1", true);
        holds("1 = 2 or 1 = 1", true);
        holds("1 = 1 or 1 = 2", true);
        holds("1 = 2 or 2 = 1", false);
        holds("1 = 2 and 1 = 1", false);
        holds("1 = 1 and 1 = 2", false);
        holds("1 = 1 and 2 = 2", true);
        holds("1 = 1 or 1 = 1 and 1 = 2", true);
        holds("[1 = 1 or 1 = 1] and 1 = 2", false);
        // The highest numbers of shores, a light one, the highest phase, a bottle that was passed on.
        String sea = "sea 6 2 tides 6;shore 0 0 throws south walks 0;shore 0 1 throws north walks 0;"
            + "shore 2 1 throws north walks 0;shore 4 1 throws west walks 0;shore 2 0 throws east walks 0 5;"
            + "shore 5 0 throws west walks 0;current 4 0 0 0 0 0 0 4;current 3 0 0 0 0 0 0 4;moon 6 springs 6;keeps : ";
        BottlePost x = Kit.sea(sea + "from = 5 and to = 3 and finder = 4 and heavy = 0 and tide = 5 and passed = 0 and age = 6;");
        x.throwsIt(5, 3, false);
        KIT.due("tides(5)", x.tides(5), 0);
        KIT.due("tides(1)", x.tides(1), 1);
        x = Kit.sea(sea + "passed = 1 and age = 12;");
        x.throwsIt(5, 3, false);
        KIT.due("tides(11)", x.tides(11), 0);
        KIT.due("passed on", x.bottle(0, 6), 1);
        KIT.due("tides(1)", x.tides(1), 1);
        KIT.due("kept", x.bottle(0, 7), 4);
    }

    private static void bottles() {
        KIT.says(9, "what 0: 0 AT SEA, 1 it LIES, 2 KEPT, 3 BROKEN, 4 SUNK, 5 LIFTED; 1: the CELL where it is, or was last");
        BottlePost x = Kit.sea(ALL_SIX);
        for (int s = 0; s < 5; s++) {
            x.throwsIt(s, -1, s % 2 == 0);
        }
        bottle(x, 4, 0, 11, 4, -1, 1, 0, 0, -1);
        x.tides(1);
        x.lift(4);
        x.tides(1);
        bottle(x, 0, 3, 12, 0, -1, 1, 0, 0, -1);
        bottle(x, 1, 4, 7, 1, -1, 0, 2, 0, -1);
        bottle(x, 2, 1, 2, 2, -1, 1, 2, 0, -1);
        bottle(x, 3, 2, 3, 3, -1, 0, 1, 0, 3);
        bottle(x, 4, 5, 11, 4, -1, 1, 1, 0, -1);
    }

    private static void noSuchBottle() {
        KIT.says(9, "-8: no such BOTTLE, what.");
        BottlePost x = Kit.sea(SIX);
        KIT.each("bottle of none", -8, b -> x.bottle(b, 0), Kit.LEAST, -1, 0, 1, 7, 8, Kit.MOST);
        for (int b = 0; b < 8; b++) {
            x.throwsIt(0, -1, true);
        }
        KIT.due("bottle(7, 0)", x.bottle(7, 0), 0);
        KIT.due("bottle(7, 7)", x.bottle(7, 7), -1);
        KIT.each("bottle of eight", -8, b -> x.bottle(b, 0), Kit.LEAST, -1, 8, Kit.MOST);
        KIT.each("bottle of 7", -8, what -> x.bottle(7, what), Kit.LEAST, -1, 8, 9, Kit.MOST);
        x.undo(1);
        KIT.due("bottle(7, 0) undone", x.bottle(7, 0), -8);
        KIT.due("bottle(6, 0)", x.bottle(6, 0), 0);
    }

    private static void throwing() {
        KIT.says(10, "A BOTTLE is thrown: its number. -11 to -13.");
        KIT.says(0, "1 no such SHORE, BOTTLE, number, from and to one; 2 the CELL that way isn't open sea, the BOTTLE isn't AT SEA; 3 it were the 9th.");
        String sea = "sea 3 3 tides 1;shore 0 0 throws east walks 0;shore 2 0 throws north walks 0;"
            + "shore 0 2 throws east walks 0;rock 1 2;shore 2 2 throws south walks 0;shore 2 1 throws north walks 0;";
        BottlePost x = Kit.sea(sea);
        for (int round = 0; round < 2; round++) {
            KIT.each("throwsIt from none", -11, s -> x.throwsIt(s, 1, true), Kit.LEAST, -1, 5, 6, Kit.MOST);
            KIT.each("throwsIt to none", -11, s -> x.throwsIt(0, s, true), Kit.LEAST, -2, 5, 6, 9, Kit.MOST);
            KIT.each("throwsIt to itself", -11, s -> x.throwsIt(s, s, true), -1, 0, 1, 2, 3, 4);
            // Over the edge, onto a rock, onto a shore: ahead of whether it were the 9th.
            KIT.each("throwsIt onto no open sea", -12, s -> x.throwsIt(s, 0, true), 1, 2, 3, 4);
            KIT.each("throwsIt onto no open sea", -12, s -> x.throwsIt(s, -1, false), 1, 2, 3, 4);
            KIT.each("throwsIt to none from there", -11, s -> x.throwsIt(s, 5, false), 1, 2, 3, 4);
            KIT.due("count(10)", x.count(10), 8 * round);
            for (int b = 0; b < 8; b++) {
                KIT.due("throwsIt " + b, x.throwsIt(0, b % 5 == 0 ? -1 : b % 5, true), round == 0 ? b : -13);
            }
        }
        KIT.due("throwsIt of no sea", new BottlePost().throwsIt(0, -1, true), -11);
    }

    private static void tides() {
        KIT.says(11, "n TIDES (1 to 99): how many BOTTLES were KEPT in these. -3.");
        BottlePost x = Kit.sea(PAIR);
        for (int b = 0; b < 8; b++) {
            x.throwsIt(0, b % 2 == 0 ? 1 : -1, b > 3);
        }
        KIT.each("tides", -3, x::tides, Kit.LEAST, -1, 0, 100, 200, Kit.MOST);
        KIT.due("count(7)", x.count(7), 0);
        KIT.due("count(10)", x.count(10), 8);
        KIT.due("tides(1)", x.tides(1), 0);
        KIT.due("all eight", x.tides(1), 8);
        KIT.due("none of them again", x.tides(99), 0);
        KIT.due("count(7)", x.count(7), 101);
        x.undo(3);
        KIT.due("all of them, by 99", x.tides(99), 8);
    }

    private static void storms() {
        KIT.says(0, "A STORM: BOTTLES AT SEA on two CELLS change places. A ship LIFTS a BOTTLE AT SEA.");
        KIT.says(12, "A STORM: how many BOTTLES changed places.");
        BottlePost x = Kit.sea(SIX);
        KIT.due("none at all", x.storm(6, 17), 0);
        for (int b = 0; b < 8; b++) {
            x.throwsIt(b == 7 ? 1 : 0, -1, true);
        }
        KIT.due("all eight", x.storm(7, 6), 8);
        for (int b = 0; b < 8; b++) {
            bottle(x, b, 0, b == 7 ? 6 : 7, b == 7 ? 1 : 0, -1, 1, 0, 0, -1);
        }
        KIT.due("from the one alone", x.storm(7, 17), 7);
        KIT.due("from the other alone", x.storm(7, 17), 7);
        KIT.due("from neither", x.storm(8, 17), 0);
        KIT.due("count(10)", x.count(10), 10);
        // Who is lifted, or lies, isn't at sea.
        x.lift(0);
        KIT.due("but for one lifted", x.storm(7, 6), 7);
        bottle(x, 0, 5, 7);
    }

    private static void stormsRefused() {
        KIT.says(12, "-2: the CELLS, both one; -5: one is not open sea.");
        BottlePost x = Kit.sea(SIX + "rock 5 2;");
        KIT.each("storm of no cell and 6", -2, k -> x.storm(k, 6), Kit.LEAST, -1, 18, 35, Kit.MOST);
        KIT.each("storm of 6 and no cell", -2, k -> x.storm(6, k), Kit.LEAST, -1, 18, 35, Kit.MOST);
        KIT.each("storm of no cell and a rock", -2, k -> x.storm(17, k), Kit.LEAST, -1, 18, 35, Kit.MOST);
        KIT.each("storm of both one", -2, k -> x.storm(k, k), -1, 0, 6, 17, 18);
        KIT.each("storm of 6 and no open sea", -5, k -> x.storm(6, k), 0, 5, 17);
        KIT.each("storm of no open sea and 6", -5, k -> x.storm(k, 6), 0, 5, 17);
        KIT.due("storm of two that are none", x.storm(0, 17), -5);
        KIT.due("storm(6, 16)", x.storm(6, 16), 0);
        KIT.due("count(10)", x.count(10), 0);
    }

    private static void lifting() {
        KIT.says(13, "A BOTTLE is LIFTED: the CELL it was on. -11, -12.");
        BottlePost x = Kit.sea(ALL_SIX);
        KIT.each("lift of none", -11, x::lift, Kit.LEAST, -1, 0, 1, 7, 8, Kit.MOST);
        for (int s = 0; s < 5; s++) {
            x.throwsIt(s, -1, s % 2 == 0);
        }
        KIT.each("lift of none", -11, x::lift, Kit.LEAST, -1, 5, 7, 8, Kit.MOST);
        KIT.due("lift(4)", x.lift(4), 11);
        KIT.due("one lifted", x.lift(4), -12);
        x.tides(2);
        KIT.due("one broken", x.lift(0), -12);
        KIT.due("one sunk", x.lift(1), -12);
        KIT.due("one that lies", x.lift(2), -12);
        KIT.due("one kept", x.lift(3), -12);
        KIT.due("count(10)", x.count(10), 7);
    }

    private static void undoneAsAWhole() {
        KIT.says(0, "Calls that did some (a STORM by which none changed aside) can be UNDONE each as a whole, the latest first, 10 at most (eldest are forgotten): BOTTLES, TIDE.");
        BottlePost x = Kit.sea(PAIR);
        long[] deeds = new long[40];
        Arrays.fill(deeds, -1);
        Kit.tray(x, 0, 0, deeds);
        deeds[0] = 11;
        Kit.tray(x, 1, 1, deeds);
        KIT.due("throwsIt", x.throwsIt(0, 1, true), 0);
        KIT.due("storm(1, 4)", x.storm(1, 4), 1);
        KIT.due("storm(1, 5)", x.storm(1, 5), 0);
        KIT.due("tides(99)", x.tides(99), 0);
        KIT.due("perform of 40 tides", x.perform(0), 40);
        KIT.due("perform of a throw and 39", x.perform(1), 40);
        KIT.due("season of 40", x.season(1, 40) > 1 ? 1 : 0, 1);
        KIT.due("lift(0)", x.lift(0), 4);
        // Calls that did none, or only asked, or were refused.
        x.storm(1, 5);
        x.throwsIt(0, 0, true);
        x.tides(0);
        x.lift(0);
        x.undo(11);
        Kit.tray(x, 2, 1);
        KIT.due("perform of none", x.perform(2), 0);
        Kit.tray(x, 2, 1, 1);
        KIT.due("perform of what can't be", x.perform(2), 0);
        x.judge(0, 0);
        x.fate(0, 0);
        x.image(0);
        KIT.due("count(10)", x.count(10), 7);
        KIT.due("the lifting", x.undo(1), 6);
        KIT.due("bottle(0, 0)", x.bottle(0, 0), 0);
        KIT.due("the season", x.undo(1), 5);
        KIT.due("count(7)", x.count(7), 178);
        KIT.due("count(4)", x.count(4), 2);
        KIT.due("one performed", x.undo(1), 4);
        KIT.due("count(7)", x.count(7), 139);
        KIT.due("count(4)", x.count(4), 1);
        KIT.due("the other", x.undo(1), 3);
        KIT.due("count(7)", x.count(7), 99);
        KIT.due("tides and storm", x.undo(2), 1);
        KIT.due("count(7)", x.count(7), 0);
        bottle(x, 0, 0, 1, 0, 1, 1, 0, 0, -1);
        KIT.due("the throw", x.undo(1), 0);
        KIT.due("count(4)", x.count(4), 0);
    }

    private static void undoneByOneDeed() {
        KIT.says(0, "Calls that did some");
        BottlePost x = Kit.sea(PAIR);
        Kit.tray(x, 0, 1, 11, 300);
        KIT.due("one deed done", x.perform(0), 1);
        KIT.due("count(10)", x.count(10), 1);
        KIT.due("a season of one tide", x.season(seedOf(1), 1), 1);
        KIT.due("count(7)", x.count(7), 1);
        KIT.due("count(10)", x.count(10), 2);
        KIT.due("undo(2)", x.undo(2), 0);
        KIT.due("count(4)", x.count(4), 0);
        // A season in which nothing could be: a bottle that isn't there was to be lifted.
        KIT.due("a season of none", x.season(seedOf(3), 1), 0);
        KIT.due("count(10)", x.count(10), 0);
    }

    /** The least seed whose first draw is so, modulo 4. */
    private static int seedOf(int lot) {
        int seed = 0;
        while (draw(new long[] {seed}) % 4 != lot) {
            seed++;
        }
        return seed;
    }

    private static void undoneIsGone() {
        KIT.says(14, "n calls (1 to 10) are UNDONE");
        BottlePost x = Kit.sea(PAIR + "keeps : from = 1 and passed > 1;shore 0 1 throws east walks 0;");
        x.throwsIt(0, -1, true);
        x.tides(1);
        KIT.due("it lies", x.shore(1, 4), 1);
        KIT.due("undo(2)", x.undo(2), 0);
        KIT.due("it lies no more", x.shore(1, 4), 0);
        x.throwsIt(0, -1, true);
        KIT.due("undo(1)", x.undo(1), 0);
        KIT.due("no storm meets it, at sea", x.storm(1, 4), 0);
        KIT.due("count(10)", x.count(10), 0);
        x.throwsIt(0, -1, true);
        x.tides(2);
        KIT.due("it is kept", x.shore(1, 5), 1);
        KIT.due("undo(2)", x.undo(2), 0);
        KIT.due("it is kept no more", x.shore(1, 5), 0);
        KIT.due("no storm meets it", x.storm(1, 4), 0);
        KIT.due("no net", x.catches(1, 60), 0);
        KIT.due("all is calm", x.calm(60), 0b110010);
        // Another has its number, and nothing else of it.
        KIT.due("throwsIt", x.throwsIt(1, 2, false), 0);
        bottle(x, 0, 0, 1, 1, 2, 0, 0, 0, -1);
        KIT.due("no storm meets two", x.storm(1, 4), 1);
        x.undo(1);
        // All of one is brought back: where it is, from whom, to whom, how heavy, how old, how often passed on.
        x.tides(4);
        bottle(x, 0, 0, 1, 1, 2, 0, 4, 2, -1);
        x.tides(2);
        bottle(x, 0, 2, 2, 1, 2, 0, 6, 2, 1);
        KIT.due("undo(1)", x.undo(1), 2);
        bottle(x, 0, 0, 1, 1, 2, 0, 4, 2, -1);
        KIT.due("its fate", x.fate(0, 1), 2);
        KIT.due("undo(1)", x.undo(1), 1);
        bottle(x, 0, 0, 1, 1, 2, 0, 0, 0, -1);
        KIT.due("its fate", x.fate(0, 1), 6);
    }

    private static void tenAtMost() {
        KIT.says(0, "10 at most (eldest are forgotten)");
        for (int calls = 9; calls <= 34; calls++) {
            BottlePost x = Kit.sea(PAIR);
            for (int i = 0; i < calls; i++) {
                x.tides(1);
                KIT.due("count(10) behind " + (i + 1), x.count(10), Math.min(i + 1, 10));
            }
            KIT.due("undo(9)", x.undo(9), calls > 9 ? 1 : 0);
            KIT.due("count(7)", x.count(7), calls - 9);
            KIT.due("undo(1)", x.undo(1), calls > 9 ? 0 : -3);
            KIT.due("count(7)", x.count(7), calls > 9 ? calls - 10 : 0);
            KIT.due("undo(1)", x.undo(1), -3);
        }
    }

    private static void undoRefused() {
        KIT.says(14, "n calls (1 to 10) are UNDONE: how many still can be. -3: n, more than can be.");
        BottlePost x = Kit.sea(PAIR);
        KIT.each("undo of none", -3, x::undo, Kit.LEAST, -1, 0, 1, 10, 11, Kit.MOST);
        for (int i = 1; i <= 10; i++) {
            x.tides(i);
            KIT.each("undo of " + i, -3, x::undo, Kit.LEAST, -1, 0, i + 1, 11, Kit.MOST);
        }
        KIT.due("count(7)", x.count(7), 55);
        KIT.due("undo(10)", x.undo(10), 0);
        KIT.due("count(7)", x.count(7), 0);
        // What was undone can't be done again by undoing.
        KIT.due("undo(1)", x.undo(1), -3);
        for (int i = 1; i <= 12; i++) {
            x.tides(1);
        }
        KIT.due("undo(11), though twelve were done", x.undo(11), -3);
        KIT.due("undo(10)", x.undo(10), 0);
        KIT.due("count(7)", x.count(7), 2);
    }

    private static void judge(BottlePost x, int place, int why, int thrown, int kept) {
        int[] due = {place, why, thrown, kept};
        for (int what = 0; what < 4; what++) {
            KIT.due("judge(0, " + what + ")", x.judge(0, what), due[what]);
        }
    }

    private static void deeds() {
        KIT.says(0, "DEEDS in a TRAY: 100 times from, 10 times to (9: to whom it may), and 1 heavy, 0 light: it is thrown; 1000 and a BOTTLE: LIFTED; NONE: a TIDE.");
        BottlePost x = Kit.sea(SIX);
        Kit.tray(x, 0, 1, 10, 50, 90, 1, 501, 541, 590, 591, -1, 1000, 1007);
        judge(x, 3, 1, 3, 0);
        Kit.tray(x, 0, 1, 10, 50, 90, 91, 501, 541, 590, 591, -1, 1000, 1007);
        judge(x, -1, 0, 8, 0);
        KIT.due("perform(0)", x.perform(0), 11);
        bottle(x, 0, 5, 6, 0, 1, 0, 1);
        bottle(x, 1, 0, 6, 0, 5, 0, 1);
        bottle(x, 2, 0, 6, 0, -1, 0, 1);
        bottle(x, 3, 0, 6, 0, -1, 1, 1);
        bottle(x, 4, 0, 11, 5, 0, 1, 1);
        bottle(x, 5, 0, 11, 5, 4, 1, 1);
        bottle(x, 6, 0, 11, 5, -1, 0, 1);
        bottle(x, 7, 5, 11, 5, -1, 1, 1);
        KIT.due("count(7)", x.count(7), 1);
    }

    /** Each of these can't be, for that reason, at the place behind the deeds that can. */
    private static void cannot(BottlePost x, int why, long[] can, long... deeds) {
        for (long deed : deeds) {
            long[] row = Arrays.copyOf(can, can.length + 2);
            row[can.length] = deed;
            row[can.length + 1] = -1;
            Kit.tray(x, 0, 3, row);
            KIT.due("judge(0, 0) of " + deed, x.judge(0, 0), can.length);
            KIT.due("judge(0, 1) of " + deed, x.judge(0, 1), why);
        }
    }

    private static void deedsThatCannotBe() {
        KIT.says(0, "Why not: 1 no such SHORE, BOTTLE, number, from and to one; 2 the CELL that way isn't open sea, the BOTTLE isn't AT SEA; 3 it were the 9th.");
        String sea = "sea 6 2 tides 1;shore 0 0 throws east walks 0;shore 2 0 throws north walks 0;"
            + "shore 5 0 throws west walks 0;current 4 0 2;";
        long[] none = {};
        cannot(Kit.sea(sea), 1, none, 300, 390, 600, 690, 790, 890, 900, 990, 999, 30, 31, 60, 80, 81);
        cannot(Kit.sea(sea), 1, none, 0, 1, 110, 111, 220, 330);
        cannot(Kit.sea(sea), 1, none, 12, 19, 92, 98, 99, 192, 202);
        cannot(Kit.sea(sea), 1, none, -2, -1000, 1000, 1007, 1008, 1010, 1100, 9999, 10010);
        cannot(Kit.sea(sea), 1, none, 4294967295L, 4294967306L, Long.MIN_VALUE, Long.MIN_VALUE + 10, Long.MAX_VALUE);
        cannot(Kit.sea(sea), 2, none, 100, 101, 120, 190, 191);
        // One of which no more is at sea; the ninth, though what is 1 or 2 goes ahead.
        long[] gone = {290, -1, 90, 1001};
        cannot(Kit.sea(sea), 2, gone, 1000, 1001);
        cannot(Kit.sea(sea), 1, gone, 1002, 1007);
        long[] eight = {10, 11, 20, 21, 90, 91, 200, 201};
        cannot(Kit.sea(sea), 3, eight, 10, 91, 290);
        cannot(Kit.sea(sea), 2, eight, 190);
        cannot(Kit.sea(sea), 1, eight, 110, 310, 1008, 92);
        // Cut to 8 bits they are other numbers.
        BottlePost x = Kit.sea(sea);
        Kit.tray(x, 0, 0, 256 + 10, 255, 512 + 91, 201);
        judge(x, 3, 1, 2, 0);
    }

    private static void judged() {
        KIT.says(15, "DEEDS, judged as if done, what 0: the first place that can't be (NONE), 1: why (0), 2: BOTTLES then, 3: how many of these are KEPT then.");
        BottlePost x = Kit.sea(PAIR);
        Kit.tray(x, 0, 1);
        judge(x, -1, 0, 0, 0);
        Kit.tray(x, 0, 1, 10);
        judge(x, -1, 0, 1, 0);
        Kit.tray(x, 0, 1, 0);
        judge(x, 0, 1, 0, 0);
        // Those who are kept already count, too; up to the place that can't be it is done.
        x.throwsIt(0, -1, true);
        x.tides(2);
        Kit.tray(x, 0, 1, 91, -1, -1, 300, 10);
        judge(x, 3, 1, 2, 2);
        KIT.due("count(4)", x.count(4), 1);
        KIT.due("count(7)", x.count(7), 2);
        KIT.due("count(10)", x.count(10), 2);
        KIT.says(15, "-2: the TRAY, what; -6.");
        KIT.each("judge of no tray", -2, tray -> x.judge(tray, 0), Kit.LEAST, -1, 4, Kit.MOST);
        KIT.each("judge of no what", -2, what -> x.judge(0, what), Kit.LEAST, -1, 4, Kit.MOST);
        KIT.each("judge of no what, the tray missing", -2, what -> x.judge(3, what), Kit.LEAST, -1, 4, Kit.MOST);
        KIT.each("judge, the tray missing", -6, what -> x.judge(3, what), 0, 1, 2, 3);
    }

    private static void judgedFull() {
        KIT.says(15, "judged as if done");
        BottlePost x = Kit.sea(PAIR);
        long[] row = new long[40];
        for (int i = 0; i < 8; i++) {
            row[i] = i % 2 == 0 ? 91 : 10;
        }
        Arrays.fill(row, 8, 40, -1);
        Kit.tray(x, 0, 1, row);
        judge(x, -1, 0, 8, 8);
        x.write(0, 39, 1000);
        judge(x, 39, 2, 8, 8);
        x.write(0, 8, 90);
        judge(x, 8, 3, 8, 0);
    }

    private static void performed() {
        KIT.says(16, "They are done, till one can't be: how many. -2; -6.");
        BottlePost x = Kit.sea(PAIR);
        KIT.each("perform of no tray", -2, x::perform, Kit.LEAST, -1, 4, Kit.MOST);
        KIT.each("perform, the tray missing", -6, x::perform, 0, 1, 2, 3);
        Kit.tray(x, 0, 1);
        KIT.due("none", x.perform(0), 0);
        Kit.tray(x, 0, 1, 300, 91);
        KIT.due("the first can't be", x.perform(0), 0);
        KIT.due("count(4)", x.count(4), 0);
        KIT.due("count(10)", x.count(10), 0);
        long[] row = new long[40];
        Arrays.fill(row, -1);
        row[0] = 91;
        Kit.tray(x, 3, 1, row);
        KIT.due("all forty", x.perform(3), 40);
        KIT.due("count(7)", x.count(7), 39);
        KIT.due("count(6)", x.count(6), 1);
        // It is still in the tray, and can be done again: eight throws, and no ninth.
        row = new long[] {91, 91, 91, 91, 91, 91, 91, 91, -1};
        Kit.tray(x, 2, 1, row);
        KIT.due("seven more", x.perform(2), 7);
        KIT.due("count(4)", x.count(4), 8);
        KIT.due("count(7)", x.count(7), 39);
        KIT.due("none more", x.perform(2), 0);
        KIT.due("count(10)", x.count(10), 2);
    }

    private static void seasonsRefused() {
        KIT.says(17, "A SEASON: how many could be. -3: how many times; -5: no SHORES.");
        BottlePost x = Kit.sea(PAIR);
        KIT.each("season of times", -3, n -> x.season(1, n), Kit.LEAST, -1, 0, 41, Kit.MOST);
        KIT.due("count(7)", x.count(7), 0);
        KIT.due("count(10)", x.count(10), 0);
        BottlePost y = new BottlePost();
        KIT.each("season of no sea, times", -3, n -> y.season(1, n), Kit.LEAST, -1, 0, 41, Kit.MOST);
        KIT.each("season of no sea", -5, n -> y.season(1, n), 1, 40);
        Kit.told(y, "sea 2 2 tides 1;rock 0 0;");
        KIT.each("season of no shores, times", -3, n -> y.season(1, n), 0, 41);
        KIT.each("season of no shores", -5, n -> y.season(1, n), 1, 40);
        KIT.due("count(7)", y.count(7), 0);
    }

    private static void seasons() {
        KIT.says(0, "A SEASON by a SEED (x, an int; a DRAW: x becomes 1103515245 x + 12345, it is x >>> 16): so many times (1 to 40)");
        KIT.says(0, "DRAW modulo 4: 0 and 1 a TIDE; 2 a throw from SHORE DRAW modulo SHORES to SHORE DRAW modulo SHORES (both one: to whom it may), heavy if DRAW modulo 2 is 1; 3 BOTTLE DRAW modulo 8 is LIFTED; as in a TRAY, if it can be.");
        String one = "sea 2 2 tides 1;shore 0 0 throws east walks 0;";
        String[] seas = {one, PAIR, SIX, "sea 2 2 tides 1;shore 0 0 throws north walks 0;"};
        int[] seeds = {0, 1, -1, Kit.LEAST, Kit.MOST, 0x10000, -0x10000, 12345, 7, 8, 9, 10};
        for (int i = 0; i < seas.length * seeds.length; i++) {
            for (int times : new int[] {1, 2, 39, 40}) {
                BottlePost x = Kit.sea(seas[i % seas.length]);
                BottlePost y = Kit.sea(seas[i % seas.length]);
                int seed = seeds[i / seas.length];
                int could = oneByOne(y, seed, times);
                KIT.due("season(" + seed + ", " + times + ")", x.season(seed, times), could);
                KIT.due("count(10)", x.count(10), could > 0 ? 1 : 0);
                for (int what : new int[] {4, 5, 6, 7}) {
                    KIT.due("count(" + what + ")", x.count(what), y.count(what));
                }
                for (int b = 0; b < 8; b++) {
                    for (int what = 0; what < 8; what++) {
                        KIT.due("bottle(" + b + ", " + what + ")", x.bottle(b, what), y.bottle(b, what));
                    }
                }
            }
        }
    }

    /** The same by single calls, with draws of 64 bits cut to 32. */
    private static int oneByOne(BottlePost y, int seed, int times) {
        long[] x = {seed};
        int could = 0;
        for (int i = 0; i < times; i++) {
            long kind = draw(x) % 4;
            int answer;
            if (kind == 2) {
                long from = draw(x) % y.count(3);
                long to = draw(x) % y.count(3);
                answer = y.throwsIt((int) from, from == to ? -1 : (int) to, draw(x) % 2 == 1);
            } else if (kind == 3) {
                answer = y.lift((int) (draw(x) % 8));
            } else {
                answer = y.tides(1);
            }
            could += answer >= 0 ? 1 : 0;
        }
        return could;
    }

    private static long draw(long[] x) {
        x[0] = 1103515245L * x[0] + 12345 & 0xffffffffL;
        return x[0] >> 16;
    }
}
