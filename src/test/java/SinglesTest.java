/** Promises 29 to 33 and 41 to 46: single faults, what tells them apart, and which it was by what was seen. */
public final class SinglesTest extends Check {
    private static final String DEVICES = "device a ir 2 cells 6;device b ir 3 cells 6;";
    /** 16 single faults: 6 stuck; b 0, b 1, b 2, b 3 open; p q, p r, q r short low and high. COUNT: p 1 0 0, q 0 1 0, r 1 1 0. */
    private static final String THREE = DEVICES + "net p from a 0 to b 0 b 1;net q from a 1 to b 2;net r from a 2 to b 3;";

    /** The board with the most single faults: 6 nets with 3 receivers each. */
    private static String most() {
        StringBuilder most = new StringBuilder("device a ir 2 cells 6;device b ir 2 cells 6;device c ir 2 cells 6;"
            + "device d ir 2 cells 6;");
        for (int n = 0; n < 6; n++) {
            most.append("net ").append((char) ('p' + n)).append(" from a ").append(n).append(" to b ").append(n);
            most.append(" c ").append(n).append(" d ").append(n).append(";");
        }
        return most.toString();
    }

    // ---- 29

    static void p29_howMany() {
        due("without NETS", new ScanBench().singles(), 0);
        due("without NETS", told(DEVICES).singles(), 0);
        due("of one NET", told(DEVICES + "net p from a 0 and a 1 to b 0;").singles(), 3);
        due("of one NET with three RECEIVERS", told(DEVICES + "net p from a 0 to b 0 b 1 b 2;").singles(), 5);
        due("of two NETS", told(DEVICES + "net p from a 0 to b 0;net q from a 1 to b 1;").singles(), 8);
        due("of three NETS", told(THREE).singles(), 16);
        due("the most", told(most()).singles(), 60);
    }

    static void p29_whateverFaultsThereAre() {
        ScanBench x = told(THREE + "stuck p 1;open b 3;short p q low;");
        due("of three NETS", x.singles(), 16);
    }

    // ---- 30

    private static void single(ScanBench x, int single, int... wants) {
        for (int what = 0; what < 4; what++) {
            due("single(" + single + ", " + what + ")", x.single(single, what), wants[what]);
        }
    }

    static void p30_theFirstAndTheLastOfEachSort() {
        ScanBench x = told(THREE + "stuck q 1;open b 2;short r q high;");
        single(x, 0, 0, 0, 0, 0);
        single(x, 1, 0, 0, 1, 0);
        single(x, 2, 0, 1, 0, 0);
        single(x, 3, 0, 1, 1, 1);
        single(x, 4, 0, 2, 0, 0);
        single(x, 5, 0, 2, 1, 0);
        single(x, 6, 1, 1, 0, 0);
        single(x, 7, 1, 1, 1, 0);
        single(x, 8, 1, 1, 2, 1);
        single(x, 9, 1, 1, 3, 0);
        single(x, 10, 2, 0, 1, 0);
        single(x, 11, 2, 0, 1, 0);
        single(x, 12, 2, 0, 2, 0);
        single(x, 13, 2, 0, 2, 0);
        single(x, 14, 2, 1, 2, 0);
        single(x, 15, 2, 1, 2, 1);
    }

    static void p30_theLastOfTheMost() {
        ScanBench x = told(most());
        single(x, 11, 0, 5, 1, 0);
        single(x, 12, 1, 1, 0, 0);
        single(x, 29, 1, 3, 5, 0);
        single(x, 30, 2, 0, 1, 0);
        single(x, 59, 2, 4, 5, 0);
        due("single(60, 0)", x.single(60, 0), -1);
    }

    static void p30_twoByTwoTheLesserNumberFirst() {
        ScanBench x = told(most());
        int number = 30;
        for (int lesser = 0; lesser < 6; lesser++) {
            for (int other = lesser + 1; other < 6; other++) {
                single(x, number, 2, lesser, other, 0);
                single(x, number + 1, 2, lesser, other, 0);
                number += 2;
            }
        }
    }

    static void p30_receiversDeviceByDeviceCellByCell() {
        ScanBench x = told("device a ir 2 cells 3;device b ir 2 cells 6;net p from b 0 to b 5 a 1 b 2;net q from a 0 to b 1;");
        single(x, 4, 1, 0, 1, 0);
        single(x, 5, 1, 1, 1, 0);
        single(x, 6, 1, 1, 2, 0);
        single(x, 7, 1, 1, 5, 0);
    }

    static void p30_lowAndHigh() {
        ScanBench low = told(THREE + "short r p low;");
        due("low", low.single(12, 3), 1);
        due("high", low.single(13, 3), 0);
        ScanBench high = told(THREE + "short r p high;");
        due("low", high.single(12, 3), 0);
        due("high", high.single(13, 3), 1);
    }

    static void p30_noneSuch() {
        ScanBench x = told(THREE);
        for (int what = 0; what < 4; what++) {
            due("single(16, " + what + ")", x.single(16, what), -1);
            due("single(-1, " + what + ")", x.single(-1, what), -1);
        }
        for (int far : FAR) {
            due("single(" + far + ", 0)", x.single(far, 0), -1);
        }
        due("single(0, 0) without NETS", new ScanBench().single(0, 0), -1);
    }

    static void p30_anotherWhat() {
        ScanBench x = told(THREE);
        due("single(0, 4)", x.single(0, 4), -1);
        due("single(0, -1)", x.single(0, -1), -1);
        for (int far : FAR) {
            due("single(0, " + far + ")", x.single(0, far), -1);
        }
    }

    // ---- 31

    static void p31_aFaultAndItself() {
        ScanBench x = told(THREE);
        for (int kind = 0; kind < 3; kind++) {
            due("none, none", x.apart(kind, -1, -1), 0);
            due("the first", x.apart(kind, 0, 0), 0);
            due("the last", x.apart(kind, 15, 15), 0);
        }
    }

    static void p31_twoFaults() {
        ScanBench x = told(THREE);
        due("q stuck at 0, its one RECEIVER open", x.apart(0, 2, 8), 0);
        due("q stuck at 1, its one RECEIVER open", x.apart(0, 3, 8), 1);
        due("p stuck at 0, one of its RECEIVERS open", x.apart(0, 0, 6), 1);
        due("p and q short, p stuck at 0", x.apart(0, 0, 10), 1);
        due("p r low, p r high", x.apart(0, 12, 13), 1);
    }

    static void p31_oneAndNone() {
        ScanBench x = told(THREE);
        due("the first and none", x.apart(0, 0, -1), 1);
        due("none and the last", x.apart(2, -1, 15), 1);
        ScanBench safe = told(DEVICES + "net p from a 0 to b 0 safe 1;net q from a 1 to b 1;");
        due("stuck as it is safe", safe.apart(1, 1, -1), 0);
        due("stuck as it is not", safe.apart(1, 0, -1), 1);
        ScanBench one = told(DEVICES + "net p from a 0 to b 0;");
        due("WALKING, its one step being 1", one.apart(2, 1, -1), 0);
        due("COUNT, the second one being 0", one.apart(0, 1, -1), 1);
    }

    static void p31_theLastStepOfACode() {
        // by WALKING r differs in the last step only; q and r stuck at 0 and none differ in the last but one, the last
        ScanBench x = told(THREE);
        due("r stuck at 0", x.apart(2, 4, -1), 1);
        // of BOTH the turned steps: p and q both open at 1, that is, short high of all but 0 0
        ScanBench y = told(DEVICES + "net p from a 0 to b 0 safe 1;net q from a 1 to b 1;net r from a 2 to b 2 safe 0;");
        due("q stuck at 1 by WALKING", y.apart(2, 3, -1), 1);
        due("q short to what is safe at 1, high", y.apart(2, 3, y.singles() - 5), 0);
    }

    static void p31_theLastStepOfAllCodes() {
        ScanBench x = told(most());
        due("the last NET stuck at 0 by WALKING", x.apart(2, 10, -1), 1);
        due("the last NET stuck at 0 by BOTH", x.apart(1, 10, -1), 1);
        due("the last two short, low and high", x.apart(2, 58, 59), 1);
        ScanBench y = told(nets(6));
        for (int kind = 0; kind < 3; kind++) {
            due("the first NET stuck at 0, its RECEIVER open", y.apart(kind, 0, 12), 0);
            due("the last NET stuck at 0, its RECEIVER open", y.apart(kind, 10, 17), 0);
        }
    }

    static void p31_whatThereIsAndTheClockDontMatter() {
        ScanBench x = told(THREE + "floats 1-clock;");
        due("open reads as at clock 0: 1", x.apart(0, 8, 3), 0);
        x.clock(0, 0);
        x.harm(2);
        x.harm(15);
        due("open reads as at clock 0: 1", x.apart(0, 8, 3), 0);
        due("q stuck at 0 and none", x.apart(0, 2, -1), 1);
        due("none and none", x.apart(0, -1, -1), 0);
    }

    static void p31_oneThatCantBe() {
        ScanBench x = told(THREE);
        for (int no : NO_KINDS) {
            due("apart(" + no + ", 0, 1)", x.apart(no, 0, 1), -2);
        }
        for (int no : new int[] {-2, 16, Integer.MIN_VALUE, Integer.MAX_VALUE}) {
            due("apart(0, " + no + ", 1)", x.apart(0, no, 1), -2);
            due("apart(0, 1, " + no + ")", x.apart(0, 1, no), -2);
            due("apart(0, " + no + ", " + no + ")", x.apart(0, no, no), -2);
        }
        ScanBench none = new ScanBench();
        due("apart(0, 0, -1) without NETS", none.apart(0, 0, -1), -2);
        due("apart(0, -1, -1) without NETS", none.apart(0, -1, -1), 0);
    }

    // ---- 32

    static void p32_fromNoneAndFromAll() {
        ScanBench x = told(THREE);
        due("from none", x.told(0, 0), 16);
        due("from all: not q, r stuck at 0, open", x.told(0, 1), 12);
        ScanBench one = told(DEVICES + "net p from a 0 to b 0;");
        due("COUNT, from none", one.told(0, 0), 3);
        due("COUNT, from all: not stuck at 0, open", one.told(0, 1), 1);
        due("WALKING, from none: not stuck at 1", one.told(2, 0), 2);
        due("WALKING, from all", one.told(2, 1), 0);
        ScanBench most = told(most());
        for (int kind = 0; kind < 3; kind++) {
            due("the most, from none", most.told(kind, 0), 60);
            due("the most, from all", most.told(kind, 1), 60);
        }
    }

    static void p32_fromNoneToo() {
        // stuck at 1 as it is safe is not told from none, though from all others
        ScanBench x = told(DEVICES + "net p from a 0 to b 0 safe 1;");
        due("from none", x.told(0, 0), 2);
        due("from all: stuck at 0 and open are alike", x.told(0, 1), 0);
        due("stuck at 1, stuck at 0", x.apart(0, 1, 0), 1);
    }

    static void p32_withoutNets() {
        for (int kind = 0; kind < 3; kind++) {
            due("from none", new ScanBench().told(kind, 0), 0);
            due("from all", new ScanBench().told(kind, 1), 0);
        }
    }

    static void p32_anotherKindOrWhat() {
        ScanBench x = told(THREE);
        for (int no : NO_KINDS) {
            due("told(" + no + ", 0)", x.told(no, 0), -1);
            due("told(" + no + ", 1)", x.told(no, 1), -1);
        }
        for (int no : NO_BITS) {
            due("told(0, " + no + ")", x.told(0, no), -1);
        }
    }

    // ---- 33

    static void p33_withoutNets() {
        due("least()", new ScanBench().least(), 0);
    }

    static void p33_theFewestStepsThatTellEach() {
        // WALKING has fewer steps, but doesn't tell that it is stuck at 1
        due("of one NET", told(DEVICES + "net p from a 0 to b 0;").least(), 0);
        due("of four NETS", told(nets(4)).least(), 0);
        due("the most", told(most()).least(), 0);
    }

    static void p33_ofLikeOnesTheFirst() {
        ScanBench x = told(nets(2));
        due("WALKING tells each", x.told(2, 0), 8);
        due("COUNT tells each", x.told(0, 0), 8);
        due("steps", x.steps(0), x.steps(2));
        due("least()", x.least(), 0);
        due("of three NETS", told(THREE).least(), 0);
    }

    static void p33_none() {
        due("least()", told(DEVICES + "net p from a 0 to b 0 safe 1;net q from a 1 to b 1;").least(), -1);
        due("least()", told(DEVICES + "net p from a 0 to b 0 safe 0;").least(), -1);
    }

    static void p33_ofTheBoardWereItWhole() {
        ScanBench x = told(THREE + "stuck p 0;stuck q 1;short p r low;");
        still(x, "least()", x::least, 0);
    }

    // ---- 41

    static void p41_itsNumber() {
        ScanBench x = told(THREE);
        due("the first", x.seen(0, 0, 1, 0, false), 0);
        due("the same once more", x.seen(0, 0, 1, 0, false), 1);
        x.untell(0);
        due("the third, one being UNTOLD", x.seen(0, 0, 1, 0, true), 2);
        due("SEEN", x.about(8), 3);
    }

    static void p41_30AtMost() {
        ScanBench x = told(THREE);
        for (int i = 0; i < 30; i++) {
            due("seen " + i, x.seen(1, 5, 1, 0, true), i);
        }
        still(x, "seen 30", () -> x.seen(1, 5, 1, 0, true), -1);
        due("untell(29)", x.untell(29), true);
        still(x, "seen 30, one being UNTOLD", () -> x.seen(1, 5, 1, 0, true), -1);
        due("SEEN", x.about(8), 30);
    }

    static void p41_anotherKind() {
        ScanBench x = told(THREE);
        for (int no : NO_KINDS) {
            still(x, "seen(" + no + ", 0, 1, 0)", () -> x.seen(no, 0, 1, 0, true), -1);
        }
    }

    static void p41_aStepOfTheCode() {
        int[] steps = {3, 6, 3};
        for (int kind = 0; kind < 3; kind++) {
            ScanBench x = told(THREE);
            int code = kind;
            due("the first step", x.seen(kind, 0, 1, 0, true), 0);
            due("the last step", x.seen(kind, steps[kind] - 1, 1, 0, true), 1);
            for (int no : new int[] {-1, steps[kind], Integer.MIN_VALUE, Integer.MAX_VALUE}) {
                still(x, "seen(" + kind + ", " + no + ", 1, 0)", () -> x.seen(code, no, 1, 0, true), -1);
            }
        }
    }

    static void p41_ofAReceiver() {
        ScanBench x = told(THREE);
        due("the last one", x.seen(0, 0, 1, 3, true), 0);
        still(x, "a DRIVER", () -> x.seen(0, 0, 0, 0, true), -1);
        still(x, "of no NET", () -> x.seen(0, 0, 1, 4, true), -1);
        still(x, "behind the last cell", () -> x.seen(0, 0, 1, 6, true), -1);
        ScanBench y = told(THREE);
        still(y, "ahead of the first cell", () -> y.seen(0, 0, 1, -1, true), -1);
        still(y, "behind the last DEVICE", () -> y.seen(0, 0, 2, 0, true), -1);
        still(y, "ahead of the first DEVICE", () -> y.seen(0, 0, -1, 0, true), -1);
        for (int far : FAR) {
            due("seen(0, 0, " + far + ", 0)", y.seen(0, 0, far, 0, true), -1);
            due("seen(0, 0, 1, " + far + ")", y.seen(0, 0, 1, far, true), -1);
        }
        due("SEEN", y.about(8), 0);
        due("without NETS", new ScanBench().seen(0, 0, 0, 0, true), -1);
    }

    // ---- 42

    static void p42_once() {
        ScanBench x = told(THREE);
        x.seen(0, 0, 1, 0, false);
        x.seen(0, 0, 1, 0, false);
        due("untell(1)", x.untell(1), true);
        still(x, "untell(1) again", () -> x.untell(1) ? 1 : 0, 0);
        x.later(5);
        still(x, "untell(1) later", () -> x.untell(1) ? 1 : 0, 0);
        due("untell(0)", x.untell(0), true);
        due("SEEN", x.about(8), 2);
    }

    static void p42_noneSuch() {
        ScanBench x = told(THREE);
        due("untell(0) of none", x.untell(0), false);
        x.seen(0, 0, 1, 0, false);
        for (int no : new int[] {-1, 1, 29, 30, Integer.MIN_VALUE, Integer.MAX_VALUE}) {
            still(x, "untell(" + no + ")", () -> x.untell(no) ? 1 : 0, 0);
        }
        due("untell(0)", x.untell(0), true);
    }

    static void p42_theLast() {
        ScanBench x = told(THREE);
        for (int i = 0; i < 30; i++) {
            x.seen(1, 5, 1, 0, true);
        }
        due("untell(29)", x.untell(29), true);
        due("untell(30)", x.untell(30), false);
    }

    // ---- 43

    static void p43_howMuch() {
        ScanBench x = new ScanBench();
        due("later(0)", x.later(0), 0);
        due("later(1)", x.later(1), 1);
        due("later(1000)", x.later(1000), 1001);
        for (int no : new int[] {-1, 1001, Integer.MIN_VALUE, Integer.MAX_VALUE}) {
            still(x, "later(" + no + ")", () -> x.later(no), -1);
        }
        due("TIME", x.about(9), 1001);
    }

    static void p43_upTo100000() {
        ScanBench x = new ScanBench();
        for (int i = 1; i <= 99; i++) {
            due("later", x.later(1000), 1000 * i);
        }
        due("later(999)", x.later(999), 99999);
        still(x, "later(2)", () -> x.later(2), -1);
        due("later(1)", x.later(1), 100000);
        still(x, "later(1)", () -> x.later(1), -1);
        still(x, "later(1000)", () -> x.later(1000), -1);
        due("later(0)", x.later(0), 100000);
    }

    // ---- 44, 45

    private static void fits(ScanBench x, int k, int... wants) {
        due("fits(" + k + ")", x.fits(k), wants.length);
        for (int i = 0; i < wants.length; i++) {
            due("culprit(" + i + ", " + k + ")", x.culprit(i, k), wants[i]);
        }
        due("culprit behind the last", x.culprit(wants.length, k), -2);
        due("culprit(-1, ..)", x.culprit(-1, k), -2);
    }

    static void p44_nothingBeingSeen() {
        ScanBench x = told(THREE);
        due("fits(0)", x.fits(0), 17);
        due("the most", told(most()).fits(0), 61);
        fits(new ScanBench(), 0, -1);
    }

    static void p44_fromWhenItWasTold() {
        ScanBench x = told(THREE);
        x.later(5);
        x.seen(0, 0, 1, 0, false);
        due("fits(4)", x.fits(4), 17);
        fits(x, 5, 0, 6, 10);
        fits(x, 6, 0, 6, 10);
        due("fits(0)", x.fits(0), 17);
        due("fits(-1)", x.fits(-1), 17);
        due("fits(MIN)", x.fits(Integer.MIN_VALUE), 17);
        fits(x, Integer.MAX_VALUE, 0, 6, 10);
        x.later(7);
        fits(x, 12, 0, 6, 10);
    }

    static void p44_toldAtTime0() {
        ScanBench x = told(THREE);
        x.seen(0, 0, 1, 0, false);
        due("fits(-1)", x.fits(-1), 17);
        fits(x, 0, 0, 6, 10);
    }

    static void p44_tillWhenItWasUntold() {
        ScanBench x = told(THREE);
        x.seen(0, 0, 1, 0, false);
        x.later(3);
        due("untell(0)", x.untell(0), true);
        fits(x, 2, 0, 6, 10);
        due("fits(3)", x.fits(3), 17);
        due("fits(4)", x.fits(4), 17);
        due("fits(MAX)", x.fits(Integer.MAX_VALUE), 17);
        fits(x, 0, 0, 6, 10);
    }

    static void p44_untoldAtTheSameTime() {
        ScanBench x = told(THREE);
        x.later(3);
        x.seen(0, 0, 1, 0, false);
        x.untell(0);
        due("fits(2)", x.fits(2), 17);
        due("fits(3)", x.fits(3), 17);
        due("fits(4)", x.fits(4), 17);
    }

    static void p44_toldAndUntoldAt100000() {
        ScanBench x = told(THREE);
        for (int i = 0; i < 100; i++) {
            x.later(1000);
        }
        x.seen(0, 0, 1, 0, false);
        due("fits(99999)", x.fits(99999), 17);
        fits(x, 100000, 0, 6, 10);
        fits(x, 100001, 0, 6, 10);
        due("untell(0)", x.untell(0), true);
        due("fits(100000)", x.fits(100000), 17);
    }

    static void p44_allThatCounts() {
        ScanBench x = told(THREE);
        x.seen(0, 0, 1, 0, false);
        x.seen(0, 0, 1, 1, true);
        fits(x, 0, 6);
        x.seen(0, 0, 1, 0, true);
        fits(x, 0);
        ScanBench y = told(THREE);
        y.seen(0, 0, 1, 0, true);
        // not p stuck at 0, b 0 open, p q low
        fits(y, 0, -1, 1, 2, 3, 4, 5, 7, 8, 9, 11, 12, 13, 14, 15);
    }

    static void p44_byEachCode() {
        ScanBench both = told(THREE);
        both.seen(1, 5, 1, 2, false);
        // in the last step of BOTH all are 1: q stuck at 0, b 2 open
        fits(both, 0, 2, 8);
        ScanBench walking = told(THREE);
        walking.seen(2, 2, 1, 0, true);
        // in the last step of WALKING r alone is 1: p stuck at 1, p r short high
        fits(walking, 0, 1, 13);
        ScanBench count = told(THREE);
        count.seen(0, 2, 1, 0, true);
        // in the last step of COUNT all are 0: p stuck at 1
        fits(count, 0, 1);
    }

    static void p44_ofTheMost() {
        ScanBench x = told(most());
        x.seen(2, 5, 3, 5, false);
        // u is not 1 though it is told so: stuck at 0, d 5 open, short low to any other
        fits(x, 0, 10, 29, 38, 46, 52, 56, 58);
        x.seen(2, 5, 2, 5, true);
        fits(x, 0, 29);
    }

    static void p44_whatThereIsAndTheClockDontMatter() {
        ScanBench x = told(THREE + "floats 1-clock;stuck p 0;");
        x.clock(0, 0);
        x.seen(0, 2, 1, 2, true);
        fits(x, 0, 3, 8);
        x.harm(0);
        x.undo();
        fits(x, 0, 3, 8);
    }

    static void p45_theFirstAndTheLast() {
        ScanBench x = told(THREE);
        due("culprit(0, 0)", x.culprit(0, 0), -1);
        due("culprit(1, 0)", x.culprit(1, 0), 0);
        due("culprit(16, 0)", x.culprit(16, 0), 15);
        due("culprit(17, 0)", x.culprit(17, 0), -2);
        ScanBench y = told(most());
        due("culprit(60, 0)", y.culprit(60, 0), 59);
        due("culprit(61, 0)", y.culprit(61, 0), -2);
    }

    static void p45_noneSuch() {
        ScanBench x = told(THREE);
        for (int far : FAR) {
            due("culprit(" + far + ", 0)", x.culprit(far, 0), -2);
        }
        due("culprit(-1, 0)", x.culprit(-1, 0), -2);
        x.seen(0, 0, 1, 0, false);
        x.seen(0, 0, 1, 0, true);
        due("culprit(0, 0), none FITS", x.culprit(0, 0), -2);
        due("culprit(0, -1)", x.culprit(0, -1), -1);
        due("culprit(0, MAX)", x.culprit(0, Integer.MAX_VALUE), -2);
        due("culprit(0, MIN)", x.culprit(0, Integer.MIN_VALUE), -1);
    }

    // ---- 46

    private static void ask(ScanBench x, int kind, int k, int step, int left) {
        due("ask(" + kind + ", 0, " + k + ")", x.ask(kind, 0, k), step);
        due("ask(" + kind + ", 1, " + k + ")", x.ask(kind, 1, k), left);
    }

    static void p46_theFewestAtTheMost() {
        ScanBench x = told(THREE);
        x.seen(0, 0, 1, 0, false);
        // by BOTH the last step, all being 1, tells all three of 0, 6, 10 from one another
        ask(x, 1, 0, 5, 1);
    }

    static void p46_ofLikeOnesTheFirst() {
        ScanBench x = told(THREE);
        x.seen(0, 0, 1, 0, false);
        ask(x, 0, 0, 0, 2);
        ask(x, 2, 0, 0, 2);
    }

    static void p46_ofTheMost() {
        ScanBench x = told(most());
        x.seen(2, 5, 3, 5, false);
        // of the seven that fit each step of WALKING tells one from six, each step of COUNT and of BOTH leaves four together
        ask(x, 2, 0, 0, 6);
        ask(x, 0, 0, 0, 4);
        ask(x, 1, 0, 0, 4);
        x.seen(2, 5, 2, 5, true);
        ask(x, 2, 0, 0, 1);
        ask(x, 1, 0, 0, 1);
    }

    static void p46_oneThatFits() {
        ScanBench x = told(THREE);
        x.seen(0, 0, 1, 0, false);
        x.seen(0, 0, 1, 1, true);
        for (int kind = 0; kind < 3; kind++) {
            ask(x, kind, 0, 0, 1);
        }
    }

    static void p46_noneFits() {
        ScanBench x = told(THREE);
        x.later(1);
        x.seen(0, 0, 1, 0, false);
        x.seen(0, 0, 1, 0, true);
        ask(x, 0, 1, -1, -1);
        ask(x, 2, Integer.MAX_VALUE, -1, -1);
        due("ask(0, 0, 0), nothing being TOLD then", x.ask(0, 0, 0) >= 0, true);
    }

    static void p46_noSteps() {
        for (int kind = 0; kind < 3; kind++) {
            ask(new ScanBench(), kind, 0, -1, -1);
            ask(told(DEVICES), kind, 0, -1, -1);
        }
    }

    static void p46_anotherKindOrWhat() {
        ScanBench x = told(THREE);
        for (int no : NO_KINDS) {
            ask(x, no, 0, -1, -1);
        }
        for (int no : NO_BITS) {
            due("ask(0, " + no + ", 0)", x.ask(0, no, 0), -1);
        }
    }

    static void p46_asKnownAtK() {
        ScanBench x = told(THREE);
        x.later(5);
        x.seen(0, 0, 1, 0, false);
        due("ask at 4, of all", x.ask(0, 1, 4) > 2, true);
        ask(x, 0, 5, 0, 2);
        x.later(5);
        x.untell(0);
        ask(x, 0, 9, 0, 2);
        due("ask at 10, of all", x.ask(0, 1, 10) > 2, true);
        due("at the most, of all", x.ask(0, 1, 10), x.ask(0, 1, -1));
    }

    public static void main(String[] args) throws Exception {
        run(SinglesTest.class);
    }
}
