import java.util.function.IntToLongFunction;
import java.util.function.ToLongFunction;

/** What the document says of all refused calls: they answer by a code, the one told first, and change nothing. */
final class RefusedTest {
    private static final Kit KIT = new Kit("RefusedTest");
    /** Shore 2 can't throw; bottles drift east along the lane, and lie at shore 1 till phase 2. */
    private static final String SEA = "sea 5 3 tides 3;shore 0 0 throws east walks 0;shore 4 0 throws west walks 2;"
        + "shore 0 2 throws west walks 1;rock 4 2;current 1 0 2 2 2;current 2 0 2 2 2;current 3 0 2 2 2;"
        + "moon 4 springs 1;wind : 2 * y - tide;keeps : passed > 1;cork 30;";

    public static void main(String[] args) {
        nothingChanges(some());
        nothingChanges(full());
        codes();
        toldFirst();
        aheadOfNone();
        KIT.end();
    }

    /** A few bottles of each kind, trays of two lengths, one image, a tape, a fault. */
    private static BottlePost[] some() {
        BottlePost[] both = {new BottlePost(), new BottlePost()};
        for (BottlePost x : both) {
            Kit.told(x, "sea 2 2 tides 9");
            Kit.told(x, SEA);
            x.throwsIt(0, 1, true);
            x.tides(2);
            x.image(1);
            x.throwsIt(0, -1, false);
            x.throwsIt(1, 2, true);
            x.lift(1);
            x.tides(3);
            x.throwsIt(0, 2, false);
            Kit.tray(x, 0, 1, 10, -1, 1000);
            Kit.tray(x, 1, 0, 3, 0, 2, 1);
            Kit.tray(x, 2, 2);
            x.feed(1, 2, 3, 4, 5);
        }
        return both;
    }

    /** Eight bottles, ten calls to undo, both images. */
    private static BottlePost[] full() {
        BottlePost[] both = {new BottlePost(), new BottlePost()};
        for (BottlePost x : both) {
            Kit.told(x, SEA);
            x.image(0);
            x.tides(99);
            for (int b = 0; b < 8; b++) {
                x.throwsIt(b % 2, -1, b < 4);
            }
            x.image(1);
            x.tides(2);
            x.lift(0);
            Kit.tray(x, 0, 1, 10, 1000);
            Kit.tray(x, 1, 3, 3, 0, 2, 31);
            Kit.tray(x, 2, 2);
        }
        return both;
    }

    private static void nothingChanges(BottlePost[] both) {
        KIT.says(0, "Refused calls answer by a code and change nothing");
        BottlePost x = both[0];
        boolean isFull = x.count(4) == 8;
        refused("sea", x::sea, -1, x.count(11) + 1, Kit.MOST, Kit.LEAST);
        refused("cell", x::cell, -1, 15);
        refused("shore", n -> x.shore(n, 0), -1, 3);
        refused("shore what", n -> x.shore(0, n), -1, 6);
        refused("current", n -> x.current(n, 0), -1, 15);
        refused("current phase", n -> x.current(0, n), -1, 3);
        refused("wind", n -> x.wind(n, 0), -1, 15);
        refused("wind in", n -> x.wind(0, n), -1, 1000);
        refused("bottle", n -> x.bottle(n, 0), -1, 8);
        refused("bottle what", n -> x.bottle(0, n), -1, 8);
        refused("throwsIt", n -> x.throwsIt(n, 1, true), -1, 1, 2, 3);
        refused("throwsIt to", n -> x.throwsIt(0, n, true), -2, 0, 3);
        if (isFull) {
            refused("throwsIt, a ninth", n -> x.throwsIt(0, n, true), -1, 1, 2);
        }
        refused("tides", x::tides, -1, 0, 100);
        refused("storm", n -> x.storm(n, 6), -1, 0, 4, 6, 14, 15);
        refused("lift", x::lift, -1, isFull ? 0 : 1, 8);
        refused("undo", x::undo, -1, 0, x.count(10) + 1, 11);
        refused("judge", n -> x.judge(n, 0), -1, 3, 4);
        refused("judge what", n -> x.judge(0, n), -1, 4);
        refused("perform", x::perform, -1, 3, 4);
        refused("season", n -> x.season(1, n), -1, 0, 41);
        refused("fate", n -> x.fate(n, 0), -1, 8);
        refused("fate what", n -> x.fate(0, n), -1, 3);
        refused("whereIn", n -> x.whereIn(n, 0), -1, 8);
        refused("whereIn in", n -> x.whereIn(0, n), -1, 201);
        refused("comesTo", n -> x.comesTo(0, n), -1, 15);
        refused("keeper", n -> x.keeper(0, n, true, 0), -2, 0, 3);
        refused("keeper in", n -> x.keeper(0, 1, true, n), -1, 31);
        refused("reaches", n -> x.reaches(n, 1, true, 0), -1, 1, 2, 3);
        refused("best", n -> x.best(n, 1, 0), -1, 1, 2, 3);
        refused("reachers", x::reachers, -1, 3);
        refused("relay", n -> x.relay(0, 1, n), -1, 2, 9, 16);
        refused("keepers", x::keepers, -1, 31);
        refused("without", n -> x.without(0, 1, n), -1, 0, 1, 3);
        refused("without, can't throw", n -> x.without(2, 1, n), 0);
        refused("catches", n -> x.catches(n, 1), -1, 0, 14, 15);
        refused("net", n -> x.net(n, 0), -1, 0, 61);
        refused("calm", x::calm, -1, 0, 61);
        refused("eddy", n -> x.eddy(n, true), -1, 0, 14, 15);
        refused("seen", x::seen, -1, 0, 2, 3, 4);
        refused("thrower", n -> x.thrower(n, 0, 0), -1, 2, 3, 4);
        refused("suspects", x::suspects, -1, 2, 3, 4);
        refused("numbers", n -> x.numbers(n, 0, 1), -1, 4);
        refused("numbers sort", n -> x.numbers(0, n, 1), -1, 4);
        refused("numbers so many", n -> x.numbers(0, 0, n), -1, 41);
        refused("write", n -> x.write(0, n, -1), -1, isFull ? 2 : 3, 40);
        refused("write to", n -> x.write(n, 0, -1), -1, 2, 3, 4);
        refused("lists", n -> x.lists(0, n), -1, 8);
        refused("lists into", n -> x.lists(n, 0), -1, 3, 4);
        refused("image", x::image, -1, 2);
        refused("restore", x::restore, -1, 2);
        if (!isFull) {
            refused("restore, none was made", x::restore, 0);
        }
        same(x, both[1], isFull);
    }

    private static void refused(String call, IntToLongFunction asks, int... with) {
        for (int n : with) {
            KIT.due("whether " + call + " with " + n + " is refused", asks.applyAsLong(n) < -1 ? 1 : 0, 1);
        }
    }

    private static void alike(BottlePost x, BottlePost y, String call, ToLongFunction<BottlePost> asks) {
        KIT.due(call, asks.applyAsLong(x), asks.applyAsLong(y));
    }

    /** All that can be asked, and at last all that can be undone or restored, is as it is for one that was spared. */
    private static void same(BottlePost x, BottlePost y, boolean isFull) {
        alike(x, y, "fault(0)", z -> z.fault(0));
        alike(x, y, "fault(1)", z -> z.fault(1));
        for (int n = 0; n < 15; n++) {
            int k = n;
            alike(x, y, "count(" + k + ")", z -> z.count(k));
            alike(x, y, "cell(" + k + ")", z -> z.cell(k));
            alike(x, y, "current(" + k + ", 1)", z -> z.current(k, 1));
            alike(x, y, "wind(" + k + ", 1)", z -> z.wind(k, 1));
        }
        for (int n = 0; n < 64; n++) {
            int b = n / 8;
            int what = n % 8;
            alike(x, y, "bottle(" + b + ", " + what + ")", z -> z.bottle(b, what));
        }
        for (int n = 0; n < 4; n++) {
            int tray = n;
            for (int what = 0; what < 4; what++) {
                int ask = what;
                alike(x, y, "judge(" + tray + ", " + ask + ")", z -> z.judge(tray, ask));
            }
            alike(x, y, "seen(" + tray + ")", z -> z.seen(tray));
            alike(x, y, "shore(" + tray + ", 2)", z -> z.shore(tray, 2));
            alike(x, y, "best(0, " + tray + ", 0)", z -> z.best(0, tray, 0));
            alike(x, y, "the number behind the last of " + tray, z -> z.write(tray, 3, 400));
        }
        for (int n = 0; n < 11; n++) {
            alike(x, y, "undo(1)", z -> z.undo(1));
            alike(x, y, "count(7)", z -> z.count(7));
            alike(x, y, "count(4)", z -> z.count(4));
        }
        for (int i = isFull ? 0 : 1; i < 2; i++) {
            int image = i;
            alike(x, y, "restore(" + i + ")", z -> z.restore(image));
            alike(x, y, "count(7)", z -> z.count(7));
            alike(x, y, "count(4)", z -> z.count(4));
            alike(x, y, "count(12)", z -> z.count(12));
        }
        alike(x, y, "sea of what is on the tape", z -> z.sea(z.count(11)));
        alike(x, y, "its place", z -> z.fault(1));
    }

    private static void codes() {
        KIT.says(0, "-2 there is none such; -3 a number can't be; -4 too many; -5 it can't be now; -6 a TRAY is MISSING; -7 it has no such number; -11 to -13 why not (1 to 3); -30 less the FAULT: a text.");
        BottlePost x = Kit.sea(SEA);
        KIT.due("cell(15)", x.cell(15), -2);
        KIT.due("tides(0)", x.tides(0), -3);
        KIT.due("write(0, 0, 0)", x.write(0, 0, 0), -6);
        x.numbers(0, 0, 10);
        KIT.due("seen(0)", x.seen(0), -4);
        KIT.due("storm(0, 1)", x.storm(0, 1), -5);
        KIT.due("write(0, 10, 0)", x.write(0, 10, 0), -7);
        KIT.due("bottle(0, 0)", x.bottle(0, 0), -8);
        KIT.due("throwsIt(0, 0, true)", x.throwsIt(0, 0, true), -11);
        KIT.due("throwsIt(2, 0, true)", x.throwsIt(2, 0, true), -12);
        for (int b = 0; b < 8; b++) {
            x.throwsIt(0, 1, true);
        }
        KIT.due("throwsIt(0, 1, true)", x.throwsIt(0, 1, true), -13);
        KIT.due("sea(0)", x.sea(0), -32);
    }

    private static void toldFirst() {
        KIT.says(0, "(Of several that which the call tells first; all these ahead of NONE.)");
        BottlePost x = Kit.sea(SEA);
        KIT.due("wind: the cell, then n", x.wind(15, 1000), -2);
        KIT.due("storm: both one, then open sea", x.storm(0, 0), -2);
        KIT.due("storm: no cell, then open sea", x.storm(0, 15), -2);
        KIT.due("judge: what, then the tray missing", x.judge(0, 4), -2);
        KIT.due("season: times, then no shores", new BottlePost().season(0, 0), -3);
        KIT.due("whereIn: the bottle, then n", x.whereIn(0, 201), -2);
        KIT.due("keeper: shores, then w", x.keeper(2, 2, true, 31), -2);
        KIT.due("keeper: w, then it can't throw", x.keeper(2, 1, true, 31), -3);
        KIT.due("reaches: shores, then w", x.reaches(2, -1, true, 31), -2);
        KIT.due("reaches: w, then it can't throw", x.reaches(2, 1, true, 31), -3);
        KIT.due("best: what, then it can't throw", x.best(2, 1, 3), -2);
        KIT.due("without: two are one, then it can't throw", x.without(2, 1, 2), -2);
        KIT.due("catches: the cell, then n", x.catches(15, 0), -2);
        KIT.due("catches: n, then open sea", x.catches(0, 0), -3);
        KIT.due("net: what, then n", x.net(0, 2), -2);
        KIT.due("seen: missing, then twos", x.seen(0), -6);
        KIT.due("thrower: what, then missing", x.thrower(0, -1, 4), -2);
        KIT.due("thrower: missing, then k", x.thrower(0, -1, 0), -6);
        x.numbers(0, 0, 1);
        x.write(0, 0, 99);
        KIT.due("seen: twos, then cells", x.seen(0), -4);
        KIT.due("thrower: twos, then k", x.thrower(0, -1, 0), -4);
        KIT.due("suspects: twos, then cells", x.suspects(0), -4);
        KIT.due("numbers: sort, then n", x.numbers(0, 4, 41), -2);
        KIT.due("write: no tray, then no number", x.write(4, 99, 0), -2);
        KIT.due("write: missing, then no number", x.write(1, 99, 0), -6);
        KIT.due("lists: no bottle, then missing", x.lists(1, 0), -2);
        KIT.due("throwsIt: from and to one, then open sea", x.throwsIt(2, 2, true), -11);
        KIT.due("throwsIt: no shore, then open sea", x.throwsIt(2, 3, true), -11);
    }

    private static void aheadOfNone() {
        KIT.says(0, "all these ahead of NONE");
        BottlePost x = new BottlePost();
        KIT.due("net of no open sea, n", x.net(0, 0), -3);
        KIT.due("net of no open sea, what", x.net(1, 2), -2);
        BottlePost y = Kit.sea("sea 3 2 tides 1;shore 0 0 throws east walks 0;shore 2 1 throws north walks 0;"
            + "shore 0 1 throws east walks 0;");
        KIT.due("none does", y.best(0, 1, 0), -1);
        KIT.due("none does, what", y.best(0, 1, 3), -2);
        KIT.due("none does, w", y.reaches(0, 1, true, 31), -3);
        KIT.due("none does, what of a relay", y.relay(0, 1, 16), -2);
        KIT.due("it doesn't now, two are one", y.without(0, 1, 1), -2);
        y.throwsIt(0, 1, true);
        y.lift(0);
        KIT.due("lifted, n", y.whereIn(0, 201), -3);
        KIT.due("lifted, the cell", y.comesTo(0, 6), -2);
        Kit.tray(y, 0, 0, 5, 0);
        KIT.due("not so many", y.thrower(0, 0, 0), -1);
        KIT.due("not so many, k below 0", y.thrower(0, -1, 0), -3);
        KIT.due("not so many, what", y.thrower(0, 0, 4), -2);
    }
}
