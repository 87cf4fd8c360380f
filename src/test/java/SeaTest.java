/** Promises 1 to 8: a new object, the tape, the text and its faults, what the sea is like. */
final class SeaTest {
    private static final Kit KIT = new Kit("SeaTest");
    private static final String TWO = "sea 2 2 tides 1;";
    private static final String THREE = "sea 3 3 tides 2;";

    public static void main(String[] args) {
        newObject();
        tape();
        reading();
        afterFault();
        tokens();
        seaLine();
        rockAndShoreLines();
        currentLines();
        moonAndCork();
        laws();
        nesting();
        cells();
        shores();
        winds();
        KIT.end();
    }

    private static void fault(String text, int kind, int place) {
        BottlePost x = new BottlePost();
        KIT.due("sea of " + text, Kit.told(x, text), -30 - kind);
        KIT.due("fault(0) of " + text, x.fault(0), kind);
        KIT.due("fault(1) of " + text, x.fault(1), place);
        KIT.due("count(12) of " + text, x.count(12), 0);
    }

    private static void reads(String text, int lines) {
        BottlePost x = new BottlePost();
        KIT.due("sea of " + text, Kit.told(x, text), lines);
        KIT.due("fault(0) of " + text, x.fault(0), 0);
        KIT.due("fault(1) of " + text, x.fault(1), -1);
        KIT.due("count(12) of " + text, x.count(12), lines);
    }

    private static void newObject() {
        BottlePost x = new BottlePost();
        KIT.due("NONE", BottlePost.NONE, -1);
        for (int what = 0; what < 14; what++) {
            KIT.due("count(" + what + ")", x.count(what), what == 2 ? 1 : 0);
        }
        KIT.due("cell(0)", x.cell(0), -2);
        KIT.due("shore(0, 0)", x.shore(0, 0), -2);
        KIT.due("current(0, 0)", x.current(0, 0), -2);
        KIT.due("wind(0, 0)", x.wind(0, 0), -2);
        KIT.due("wind(0, -1)", x.wind(0, -1), -2);
        KIT.due("fault(0)", x.fault(0), 0);
        KIT.due("fault(1)", x.fault(1), -1);
        KIT.due("fault(2)", x.fault(2), -1);
        KIT.due("fault(-1)", x.fault(-1), -1);
        KIT.due("tides(1)", x.tides(1), 0);
        KIT.due("count(7)", x.count(7), 1);
        KIT.due("image(0)", x.image(0), 0);
        KIT.due("net(1, 1)", x.net(1, 1), -1);
        KIT.due("relay(0, 1, 0)", x.relay(0, 1, 0), -2);
    }

    private static void tape() {
        BottlePost x = new BottlePost();
        // "sea 2 2 tides 1;    ", the highest byte of each int first.
        KIT.due("feed", x.feed(0x73656120, 0x32203220, 0x74696465, 0x7320313b, 0x20202020), 20);
        KIT.due("sea(21)", x.sea(21), -3);
        KIT.due("sea(-1)", x.sea(-1), -3);
        KIT.due("count(11)", x.count(11), 20);
        KIT.due("fault(0)", x.fault(0), 0);
        KIT.due("sea(20)", x.sea(20), 1);
        KIT.due("count(11)", x.count(11), 0);
        for (int i = 1; i <= 45; i++) {
            KIT.due("feed " + i, x.feed(0x20202020, 0x20202020, 0x20202020, 0x20202020, 0x20202020), 20 * i);
        }
        KIT.due("feed 46", x.feed(0, 0, 0, 0, 0), -5);
        KIT.due("count(11)", x.count(11), 900);
        KIT.due("sea(901)", x.sea(901), -3);
        KIT.due("sea(900)", x.sea(900), -32);
        KIT.due("fault(1)", x.fault(1), 900);
        KIT.due("feed", x.feed(-1, -1, -1, -1, -1), 20);
        KIT.due("sea(1)", x.sea(1), -31);
        KIT.due("count(11)", x.count(11), 0);
    }

    /** Bytes behind the first n are none of the text's, though they be of the same word. */
    private static void cutOff(String tape, int n, int kind, int place) {
        BottlePost x = new BottlePost();
        for (int[] r : Kit.twenties(Kit.bytes(tape))) {
            x.feed(r[0], r[1], r[2], r[3], r[4]);
        }
        KIT.due("sea(" + n + ") of " + tape, x.sea(n), kind == 0 ? 1 : -30 - kind);
        KIT.due("fault(1)", x.fault(1), place);
    }

    private static void reading() {
        cutOff(TWO + "rock 0 0;", 16, 0, -1);
        cutOff(TWO + "rock 0 0;", 19, 2, 16);
        cutOff(TWO + "rock 0 0;", 20, 2, 20);
        cutOff(TWO + "cork 12;", 22, 2, 22);
        cutOff(TWO + "cork 1234;", 24, 3, 21);
        cutOff(TWO + "cork 1234;", 25, 1, 21);

        BottlePost x = Kit.sea("sea 3 2 tides 4;shore 0 0 throws east walks 1;rock 2 0;rock 2 1;");
        KIT.due("count(0)", x.count(0), 3);
        KIT.due("count(1)", x.count(1), 2);
        KIT.due("count(2)", x.count(2), 4);
        KIT.due("count(3)", x.count(3), 1);
        KIT.due("count(12)", x.count(12), 4);
        KIT.due("count(13)", x.count(13), 2);
        KIT.due("throwsIt", x.throwsIt(0, -1, true), 0);
        x.tides(3);
        KIT.due("count(10)", x.count(10), 2);
        KIT.due("sea", Kit.told(x, TWO), 1);
        KIT.due("count(3)", x.count(3), 0);
        KIT.due("count(4)", x.count(4), 0);
        KIT.due("count(7)", x.count(7), 0);
        KIT.due("count(10)", x.count(10), 0);
        KIT.due("count(13)", x.count(13), 0);
        KIT.due("undo(1)", x.undo(1), -3);
        // A text of 900 bytes to the last.
        StringBuilder text = new StringBuilder("sea 2 2 tides 1;wind:1");
        while (text.length() < 899) {
            text.append(text.length() == 898 ? " " : "+1");
        }
        reads(text + ";", 2);
    }

    private static void afterFault() {
        BottlePost x = Kit.sea("sea 3 2 tides 1;shore 0 0 throws east walks 0;keeps : 1 = 1;");
        x.throwsIt(0, -1, false);
        x.tides(2);
        KIT.due("sea", Kit.told(x, "sea 6 6 tides 2;rock 0 0;wind : 1;cork 1;oops"), -32);
        KIT.due("count(0)", x.count(0), 3);
        KIT.due("count(2)", x.count(2), 1);
        KIT.due("count(4)", x.count(4), 1);
        KIT.due("count(7)", x.count(7), 2);
        KIT.due("count(10)", x.count(10), 2);
        KIT.due("count(12)", x.count(12), 3);
        KIT.due("cell(0)", x.cell(0), 10);
        KIT.due("wind(1, 0)", x.wind(1, 0), 0);
        KIT.due("fate(0, 0)", x.fate(0, 0), 0);
        KIT.due("undo(2)", x.undo(2), 0);
        KIT.due("fault(0)", x.fault(0), 2);
        KIT.due("fault(1)", x.fault(1), 41);
        KIT.due("sea(1)", x.sea(1), -3);
        KIT.due("fault(0)", x.fault(0), 2);
    }

    private static void tokens() {
        fault("", 2, 0);
        fault("  \n", 2, 3);
        fault("sea 2 2 tides 1", 2, 15);
        fault("sea 2 2 tides 1 \n", 2, 17);
        fault("Sea 2 2 tides 1;", 1, 0);
        fault(TWO + "\trock 0 0;", 1, 16);
        fault(TWO + "\u00e9", 1, 16);
        fault(TWO + "rock 0,0;", 1, 22);
        fault("sea 0002 2 tides 1;", 1, 4);
        fault("sea 2 2 tides 12345;", 1, 14);
        fault(TWO + "1000", 1, 16);
        fault(TWO + "999", 2, 16);
        fault(TWO + "rock 0 0/", 1, 24);
        // The first along the text, though a worse one comes behind.
        fault("sea 2 9 tides !;", 3, 6);
        fault("sea 2 2 tides !;", 1, 14);
        reads("sea2 2tides1;", 1);
        reads("\n sea 02\n002 tides 001 ; \n", 1);
        reads(TWO + "rock 0 0;rock 1 0 ;\nrock 0 1;rock 1 1;", 5);
    }

    private static void seaLine() {
        fault("rock 0 0;", 2, 0);
        fault(";", 2, 0);
        fault(";rock 0 0;", 2, 0);
        fault("seas 2 2 tides 1;", 2, 0);
        fault("sea 2 tides 1;", 2, 6);
        fault("sea 2 2 tide 1;", 2, 8);
        fault("sea 2 2 tides;", 2, 13);
        fault("sea 2 2 tides 1 2;", 2, 16);
        fault("sea 1 2 tides 1;", 3, 4);
        fault("sea 7 2 tides 1;", 3, 4);
        fault("sea 2 1 tides 1;", 3, 6);
        fault("sea 2 7 tides 1;", 3, 6);
        fault("sea 2 2 tides 0;", 3, 14);
        fault("sea 2 2 tides 7;", 3, 14);
        fault(TWO + TWO, 2, 16);
        fault(TWO + ";", 2, 16);
        fault(TWO + "storm 0 0;", 2, 16);
        reads("sea 6 6 tides 6;", 1);
        reads("sea 2 6 tides 1;", 1);
    }

    private static void rockAndShoreLines() {
        fault(TWO + "rock 2 0;", 3, 21);
        fault(TWO + "rockz 0 0;", 2, 16);
        fault(TWO + "zrock 0 0;", 2, 16);
        fault(TWO + "roc 0 0;", 2, 16);
        fault(TWO + "rock 0 2;", 3, 23);
        fault(TWO + "rock 0 0 0;", 2, 25);
        fault(TWO + "rock 0;", 2, 22);
        fault(TWO + "rock 0 0;rock 0 0;", 3, 32);
        fault(TWO + "rock 0 0;shore 0 0 throws east walks 0;", 3, 33);
        fault(TWO + "shore 1 1 throws east walks 0;rock 1 1;", 3, 53);
        fault(TWO + "shore 1 1 throws east walks 0;shore 1 1 throws east walks 0;", 3, 54);
        fault(TWO + "shore 0 0 throws 1 walks 0;", 2, 33);
        fault(TWO + "shore 0 0 throws east;", 2, 37);
        fault(TWO + "shore 0 0 throws east walks;", 2, 43);
        fault(TWO + "shore 0 0 throws east walks 1;", 3, 44);
        fault(TWO + "shore 0 0 throws east walks 0 1;", 3, 46);
        fault(TWO + "shore 0 0 throws east walks 0 east;", 2, 46);
        reads(TWO + "shore 0 0 throws east walks 0 0 0;", 2);
        StringBuilder six = new StringBuilder("sea 6 2 tides 1;");
        for (int s = 0; s < 6; s++) {
            six.append("shore ").append(s).append(" 0 throws south walks 0;");
        }
        reads(six.toString(), 7);
        fault(six + "shore", 4, six.length());
        fault(six + "\n shore 0 0 up", 4, six.length() + 2);
        reads(six + "rock 0 1;", 8);
    }

    private static void currentLines() {
        fault(THREE + "current 0 0;", 2, 27);
        fault(THREE + "current 0 0 1;", 2, 29);
        fault(THREE + "current 0 0 1 2 9;", 2, 32);
        fault(THREE + "current 0 0 5 9;", 3, 28);
        fault(THREE + "current 3 0 1 1;", 3, 24);
        fault(THREE + "current 0 3 1 1;", 3, 26);
        BottlePost x = Kit.sea(THREE + "current 1 0 4 3;current 2 2 1 1;current 1 0 0 2;rock 1 0;");
        KIT.due("current(1, 0)", x.current(1, 0), 0);
        KIT.due("current(1, 1)", x.current(1, 1), 2);
        KIT.due("current(8, 1)", x.current(8, 1), 1);
        KIT.due("current(0, 0)", x.current(0, 0), 0);
        KIT.due("current(9, 0)", x.current(9, 0), -2);
        KIT.due("current(-1, 0)", x.current(-1, 0), -2);
        KIT.due("current(0, 2)", x.current(0, 2), -2);
        KIT.due("current(0, -1)", x.current(0, -1), -2);
        // What strikes may be told of a rock, too: nothing forbids it.
        reads(THREE + "rock 0 0;current 0 0 1 1;", 3);
    }

    private static void moonAndCork() {
        fault(TWO + "moon 1 springs 0;", 3, 21);
        fault(TWO + "moon 31 springs 0;", 3, 21);
        fault(TWO + "moon 30 springs 31;", 3, 32);
        fault(TWO + "moon 5 spring 1;", 2, 23);
        fault(TWO + "cork 0;", 3, 21);
        fault(TWO + "cork 100;", 3, 21);
        fault(TWO + "cork;", 2, 20);
        reads(TWO + "moon 2 springs 0;moon 30 springs 30;cork 1;cork 99;", 5);
        BottlePost x = Kit.sea(TWO + "moon 9 springs 1;moon 4 springs 0;");
        x.tides(6);
        KIT.due("count(9)", x.count(9), 2);
    }

    private static void laws() {
        fault(TWO + "wind 1;", 2, 21);
        fault(TWO + "wind :;", 2, 22);
        fault(TWO + "wind : 1 2;", 2, 25);
        fault(TWO + "wind : - 1;", 2, 23);
        fault(TWO + "wind : 1 +;", 2, 26);
        fault(TWO + "wind : 1 = 1;", 2, 25);
        fault(TWO + "wind : [1];", 2, 23);
        fault(TWO + "wind : not 1;", 2, 23);
        fault(TWO + "wind : age;", 2, 23);
        fault(TWO + "wind : z;", 2, 23);
        fault(TWO + "wind : (1;", 2, 25);
        fault(TWO + "wind : 1);", 2, 24);
        fault(TWO + "wind : 1000;", 1, 23);
        fault(TWO + "keeps : 1;", 2, 25);
        fault(TWO + "keeps : 1 = 1 = 1;", 2, 30);
        fault(TWO + "keeps : (1 = 1);", 2, 27);
        fault(TWO + "keeps : [1 = 1;", 2, 30);
        fault(TWO + "keeps : [1] = 1;", 2, 26);
        fault(TWO + "keeps : 1 = 1 or;", 2, 32);
        fault(TWO + "keeps : not;", 2, 27);
        fault(TWO + "keeps : moon = 1;", 2, 24);
        fault(TWO + "keeps : y = 1;", 2, 24);
        fault(TWO + "keeps : 1 > 1 + 1 and not not", 2, 45);
        reads(TWO + "keeps:from+to-finder*age=passed and heavy<tide or[not 1>2 and[1=1]];", 2);
        reads(TWO + "wind:x*y+(tide-moon)*(((3)));", 2);
    }

    private static void nesting() {
        reads(TWO + "wind : ((((((1)))))) + ((((((2))))));", 2);
        fault(TWO + "wind : (((((((1)))))));", 4, 29);
        fault(TWO + "wind : 1 + ((((((2)))))) * (((((((", 4, 49);
        reads(TWO + "keeps : not not not not not not 1 = 1;", 2);
        reads(TWO + "keeps : not [ ( ( ( ( 1 ) ) ) ) = 1 ];", 2);
        fault(TWO + "keeps : not [ ( ( ( ( ( 1", 4, 38);
        fault(TWO + "keeps : [[[[[[[", 4, 30);
        fault(TWO + "keeps : [[[[[[not", 4, 30);
        fault(TWO + "keeps : [[[[[[1=(", 4, 32);
        // What a not stands ahead of ends with its unit.
        reads(TWO + "keeps : not 1 = 1 and ((((((1)))))) = 1;", 2);
        fault(TWO + "keeps : not 1 = ((((((1)))))) and", 4, 37);
        fault(TWO + "keeps : [[[[[[]", 2, 30);
    }

    private static void cells() {
        BottlePost x = Kit.sea(THREE + "rock 2 0;shore 0 1 throws east walks 0;shore 2 2 throws north walks 1;");
        int[] kinds = {0, 0, 1, 10, 0, 0, 0, 0, 11};
        for (int k = 0; k < 9; k++) {
            KIT.due("cell(" + k + ")", x.cell(k), kinds[k]);
        }
        KIT.due("cell(9)", x.cell(9), -2);
        KIT.due("cell(-1)", x.cell(-1), -2);
    }

    private static void shores() {
        BottlePost x = Kit.sea("sea 3 3 tides 3;shore 0 0 throws north walks 0;shore 1 0 throws west walks 2 0;"
            + "shore 2 0 throws south walks 1 1;shore 2 2 throws west walks 0 1 2;rock 1 2;");
        int[][] due = {{0, 1, 1, -1}, {1, 4, 5, -1}, {2, 3, 2, 5}, {8, 4, 7, -1}};
        for (int s = 0; s < 4; s++) {
            for (int what = 0; what < 4; what++) {
                KIT.due("shore(" + s + ", " + what + ")", x.shore(s, what), due[s][what]);
            }
            KIT.due("shore(" + s + ", 4)", x.shore(s, 4), 0);
            KIT.due("shore(" + s + ", 5)", x.shore(s, 5), 0);
            KIT.due("shore(" + s + ", 6)", x.shore(s, 6), -2);
            KIT.due("shore(" + s + ", -1)", x.shore(s, -1), -2);
        }
        KIT.due("shore(4, 0)", x.shore(4, 0), -2);
        KIT.due("shore(-1, 0)", x.shore(-1, 0), -2);
        // Where bottles lie, and by whom they are kept.
        x = Kit.sea("sea 3 2 tides 2;shore 0 0 throws south walks 1;shore 2 0 throws west walks 0;"
            + "current 0 1 1 1;current 1 0 2 2;");
        x.throwsIt(0, -1, true);
        x.throwsIt(0, 1, true);
        x.throwsIt(1, -1, true);
        x.tides(1);
        KIT.due("shore(0, 4)", x.shore(0, 4), 3);
        KIT.due("shore(0, 5)", x.shore(0, 5), 0);
        KIT.due("shore(1, 4)", x.shore(1, 4), 0);
        KIT.due("shore(1, 5)", x.shore(1, 5), 4);
        x.tides(1);
        KIT.due("shore(0, 4)", x.shore(0, 4), 0);
        KIT.due("shore(0, 5)", x.shore(0, 5), 1);
    }

    private static void winds() {
        BottlePost x = Kit.sea("sea 3 2 tides 2;moon 3 springs 0;wind : x + 10 * y + 2 * tide - moon;");
        KIT.due("wind(0, 0)", x.wind(0, 0), 0);
        KIT.due("wind(2, 0)", x.wind(2, 0), 2);
        KIT.due("wind(4, 0)", x.wind(4, 0), 1);
        KIT.due("wind(0, 1)", x.wind(0, 1), 1);
        KIT.due("wind(0, 2)", x.wind(0, 2), 3);
        KIT.due("wind(0, 999)", x.wind(0, 999), 2);
        KIT.due("wind(0, 1000)", x.wind(0, 1000), -3);
        KIT.due("wind(0, -1)", x.wind(0, -1), -3);
        KIT.due("wind(6, -1)", x.wind(6, -1), -2);
        x.tides(1);
        KIT.due("wind(0, 0)", x.wind(0, 0), 1);
        // Kept at a million either way: 999 * 999 * 999 is 1000000, less 999 * 999.
        x = Kit.sea(TWO + "wind : 999 * 999 * 999 - 999 * 999;");
        KIT.due("wind(0, 0)", x.wind(0, 0), 4);
        x = Kit.sea(TWO + "wind : (0 - 999 * 999) * 2 + 999 * 999 + 1;");
        KIT.due("wind(0, 0)", x.wind(0, 0), 2);
        x = Kit.sea(TWO + "wind : 999 * 999 + 999 * 999 - 999 * 999;");
        KIT.due("wind(0, 0)", x.wind(0, 0), 4);
        x = Kit.sea(TWO + "wind : 2;wind : 9 - 2 - 3;");
        KIT.due("wind(3, 5)", x.wind(3, 5), 4);
        x = Kit.sea(TWO + "wind : 1 + 2 * 3;rock 0 0;");
        KIT.due("wind(0, 0)", x.wind(0, 0), 2);
        // Sea upon sea in one object, each with a long law.
        StringBuilder sum = new StringBuilder("0");
        for (int i = 1; i <= 100; i++) {
            sum.append("+1");
            if (i % 10 == 0) {
                KIT.due("sea " + i, Kit.told(x, TWO + "wind:" + sum + "+" + i / 10 + ";"), 2);
                KIT.due("wind(0, 0) of " + i, x.wind(0, 0), i / 10 % 5);
            }
        }
    }
}
