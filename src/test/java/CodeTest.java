/** Promises 22 to 28 and 34 to 39: codes, answers, verdicts, what to mend first, the safest pattern, odds. */
public final class CodeTest extends Check {
    private static final String DEVICES = "device a ir 2 cells 6;device b ir 3 cells 6;";
    /** COUNT tells p 1 0 0, q 0 1 0, r 1 1 0. */
    private static final String THREE = DEVICES + "net p from a 0 to b 0 b 1;net q from a 1 to b 2;net r from a 2 to b 3;";
    /** As three, but r being safe at 0, and p with one RECEIVER. */
    private static final String SAFE = DEVICES + "net p from a 0 to b 0;net q from a 1 to b 1;net r from a 2 to b 2 safe 0;";
    private static final int[] NO_NETS = {-1, 3, Integer.MIN_VALUE, Integer.MAX_VALUE};

    /** The nets' receivers begin by the first cell of all. */
    private static final String FIRST = DEVICES + "net p from b 0 to a 0;net q from b 1 to a 1;net r from b 2 to a 2 safe 0;";

    // ---- 22

    static void p22_fromNoNetsTo6() {
        int[] counts = {0, 2, 2, 3, 3, 3, 3};
        for (int nets = 0; nets <= 6; nets++) {
            ScanBench x = told(nets(nets));
            due("COUNT of " + nets, x.steps(0), counts[nets]);
            due("BOTH of " + nets, x.steps(1), 2 * counts[nets]);
            due("WALKING of " + nets, x.steps(2), nets);
        }
    }

    static void p22_whatIsSafeHasItsStepsToo() {
        ScanBench x = told(SAFE);
        due("COUNT", x.steps(0), 3);
        due("BOTH", x.steps(1), 6);
        due("WALKING", x.steps(2), 3);
        due("COUNT of one that is safe", told(DEVICES + "net p from a 0 to b 0 safe 1;").steps(0), 2);
    }

    static void p22_anotherKind() {
        ScanBench x = told(THREE);
        for (int no : NO_KINDS) {
            still(x, "steps(" + no + ")", () -> x.steps(no), -1);
        }
    }

    // ---- 23

    static void p23_whatTheCodesTell() {
        int[] counts = {0, 2, 2, 3, 3, 3, 3};
        for (int nets = 1; nets <= 6; nets++) {
            ScanBench x = told(nets(nets));
            for (int net = 0; net < nets; net++) {
                due("COUNT, " + net + " of " + nets, x.tells(0, net), net + 1);
                int ones = (1 << counts[nets]) - 1;
                due("BOTH, " + net + " of " + nets, x.tells(1, net), net + 1 | (ones - net - 1) << counts[nets]);
                due("WALKING, " + net + " of " + nets, x.tells(2, net), 1 << net);
            }
            due("COUNT, behind the last", x.tells(0, nets), -1);
        }
    }

    static void p23_whatIsSafeInAllSteps() {
        ScanBench x = told(DEVICES + "net p from a 0 to b 0;net q from a 1 to b 2 safe 1;net r from a 2 to b 3 safe 0;");
        int[] ones = {7, 63, 7};
        for (int kind = 0; kind < 3; kind++) {
            due("safe at 1", x.tells(kind, 1), ones[kind]);
            due("safe at 0", x.tells(kind, 2), 0);
        }
        due("BOTH of what is not", x.tells(1, 0), 1 | 6 << 3);
    }

    static void p23_whatIsStuckShortOpenIsToldAllTheSame() {
        ScanBench x = told(THREE + "stuck p 0;short p q low;open b 3;floats 1;");
        due("p", x.tells(0, 0), 1);
        due("q", x.tells(0, 1), 2);
        due("r", x.tells(0, 2), 3);
    }

    static void p23_oneThatCantBe() {
        ScanBench x = told(THREE);
        for (int no : NO_KINDS) {
            due("tells(" + no + ", 0)", x.tells(no, 0), -1);
        }
        for (int no : NO_NETS) {
            due("tells(0, " + no + ")", x.tells(0, no), -1);
        }
        due("tells(0, 0) without NETS", new ScanBench().tells(0, 0), -1);
    }

    // ---- 24

    static void p24_stepByStep() {
        ScanBench x = told(THREE);
        due("COUNT of p", x.answer(0, 1, 1), 1);
        due("COUNT of r", x.answer(0, 1, 3), 3);
        due("BOTH of p", x.answer(1, 1, 0), 1 | 6 << 3);
        due("WALKING of r", x.answer(2, 1, 3), 4);
        due("p and q short low", told(THREE + "short p q low;").answer(1, 1, 0), 32);
        due("p and q short high", told(THREE + "short p q high;").answer(1, 1, 2), 3 | 7 << 3);
        due("stuck at 1", told(THREE + "stuck p 1;").answer(1, 1, 1), 63);
        due("open at 1", told(THREE + "open b 1;floats 1;").answer(2, 1, 1), 7);
        due("the other one of it", told(THREE + "open b 1;floats 1;").answer(2, 1, 0), 1);
    }

    static void p24_noReceiver() {
        ScanBench x = told(THREE);
        due("a DRIVER", x.answer(0, 0, 0), -1);
        due("of no NET", x.answer(0, 1, 4), -1);
        due("behind the last cell", x.answer(0, 1, 6), -1);
        due("ahead of the first cell", x.answer(0, 1, -1), -1);
        due("behind the last DEVICE", x.answer(0, 2, 0), -1);
        due("ahead of the first DEVICE", x.answer(0, -1, 0), -1);
        for (int far : FAR) {
            due("answer(0, " + far + ", 0)", x.answer(0, far, 0), -1);
            due("answer(0, 1, " + far + ")", x.answer(0, 1, far), -1);
        }
        due("answer(0, 0, 0) without NETS", new ScanBench().answer(0, 0, 0), -1);
    }

    static void p24_anotherKind() {
        ScanBench x = told(THREE);
        for (int no : NO_KINDS) {
            due("answer(" + no + ", 1, 0)", x.answer(no, 1, 0), -1);
        }
    }

    static void p24_clockAsNow() {
        ScanBench x = told(THREE + "open b 2;floats clock;");
        due("behind no CLOCK", x.answer(0, 1, 2), 0);
        due("WALKING", x.answer(2, 1, 2), 0);
        x.clock(0, 0);
        due("behind one", x.answer(0, 1, 2), 7);
        due("BOTH", x.answer(1, 1, 2), 63);
    }

    static void p24_ordersAndLatchesDontMatter() {
        ScanBench x = told(THREE);
        x.scan(1, 0, 5);
        x.scan(0, 4095, 12);
        due("LATCHES", x.device(0, 7), 63);
        still(x, "COUNT of p", () -> x.answer(0, 1, 0), 1);
        still(x, "COUNT of r", () -> x.answer(0, 1, 3), 3);
    }

    // ---- 25

    static void p25_allAndNone() {
        due("whole", told(THREE).good(0), 4);
        due("whole", told(THREE).good(1), 4);
        due("whole", told(THREE).good(2), 4);
        due("all stuck", told(THREE + "stuck p 1;stuck q 1;stuck r 1;").good(0), 0);
        due("without NETS", new ScanBench().good(0), 0);
    }

    static void p25_asItsNetsStepsAre() {
        due("p q low", told(THREE + "short p q low;").good(0), 1);
        due("p r low", told(THREE + "short r p low;").good(0), 3);
        due("p r high", told(THREE + "short r p high;").good(0), 2);
        due("one open", told(THREE + "open b 0;").good(0), 3);
        due("two open", told(THREE + "open b 0;open b 1;floats 1;").good(0), 2);
        due("one open that reads what is safe", told(SAFE + "open b 2;").good(1), 3);
        due("one open that doesn't", told(SAFE + "open b 2;floats 1;").good(1), 2);
        due("stuck at what is safe", told(SAFE + "stuck r 0;").good(2), 3);
    }

    static void p25_allDriversHaveTheBit() {
        String two = DEVICES + "net p from a 0 and b 5 to b 0;net q from a 1 and a 2 to b 1 safe 1;";
        for (int kind = 0; kind < 3; kind++) {
            due("good(" + kind + ")", told(two).good(kind), 2);
        }
    }

    static void p25_theFirstCell() {
        due("whole", told(FIRST).good(0), 3);
        due("open", told(FIRST + "open a 0;").good(0), 2);
        due("stuck", told(FIRST + "stuck p 1;").good(1), 2);
    }

    static void p25_anotherKind() {
        ScanBench x = told(THREE);
        for (int no : NO_KINDS) {
            due("good(" + no + ")", x.good(no), -1);
        }
    }

    // ---- 26

    static void p26_unlikeItsOwnStepsButLikeAnothers() {
        due("whole", told(THREE).aliased(0), 0);
        due("q answers 0 as r is told", told(SAFE + "stuck q 0;").aliased(0), 2);
        due("r answers as p is told", told(THREE + "short r p low;").aliased(0), 4);
        due("p answers as r is told", told(THREE + "short r p high;").aliased(0), 1);
        due("like none", told(THREE + "stuck p 1;").aliased(0), 0);
        due("like none: 0", told(THREE + "short p q low;").aliased(0), 0);
        due("two of them", told(SAFE + "stuck q 0;stuck p 0;").aliased(0), 3);
        due("without NETS", new ScanBench().aliased(0), 0);
    }

    static void p26_likeItsOwnStepsAndAnothers() {
        ScanBench x = told(DEVICES + "net p from a 0 to b 0 safe 0;net q from a 1 to b 1 safe 0;net r from a 2 to b 2;");
        due("GOOD ones", x.aliased(0), 0);
        x.harm(0);
        due("stuck at what is safe", x.aliased(0), 0);
    }

    static void p26_aReceiverThatIsNotOpen() {
        due("open", told(SAFE + "open b 1;").aliased(0), 0);
        String two = DEVICES + "net p from a 0 to b 0 b 3;net q from a 1 to b 1;net r from a 2 to b 2 safe 0;";
        due("one open, one not", told(two + "open b 0;stuck p 0;").aliased(0), 1);
        due("one open, one GOOD", told(two + "open b 0;").aliased(0), 0);
    }

    static void p26_theFirstCellAndTheLastNet() {
        due("p answers as r is told", told(FIRST + "stuck p 0;").aliased(0), 1);
        due("the last of 6 answers 2 and 4", told(nets(6) + "short p u low;").aliased(0), 0);
        due("the last of 6 answers as the second", told(nets(6) + "short q u low;").aliased(0), 32);
        due("the second of 6 answers as the last", told(nets(6) + "short q u high;").aliased(0), 2);
    }

    static void p26_anotherKind() {
        ScanBench x = told(SAFE + "stuck q 0;");
        for (int no : NO_KINDS) {
            due("aliased(" + no + ")", x.aliased(no), -1);
        }
        due("WALKING", x.aliased(2), 2);
    }

    // ---- 27

    static void p27_answerAlike() {
        ScanBench x = told(THREE + "stuck q 0;stuck p 0;");
        due("p", x.confounded(0, 0), 2);
        due("q", x.confounded(0, 1), 1);
        due("r", x.confounded(0, 2), 0);
        due("whole", told(THREE).confounded(0, 0), 0);
        ScanBench three = told(THREE + "stuck q 1;stuck p 1;stuck r 1;");
        due("q, of all three", three.confounded(2, 1), 5);
        ScanBench unlike = told(THREE + "stuck q 1;stuck p 0;");
        due("p, stuck at the other one", unlike.confounded(0, 0), 0);
    }

    static void p27_notThoseThatHangTogether() {
        ScanBench x = told(THREE + "short p q low;");
        due("p", x.confounded(0, 0), 0);
        due("q", x.confounded(0, 1), 0);
        ScanBench far = told(THREE + "stuck p 0;stuck q 0;stuck r 0;short p q low;short q r low;");
        due("p, by way of q", far.confounded(0, 0), 0);
        ScanBench one = told(THREE + "stuck p 0;stuck q 0;stuck r 0;short p q low;");
        due("p", one.confounded(0, 0), 4);
        due("r", one.confounded(0, 2), 3);
    }

    static void p27_noneOfBothGood() {
        due("r answers as p, which is GOOD", told(THREE + "short r p low;").confounded(0, 2), 0);
        ScanBench x = told(SAFE + "stuck q 0;");
        due("q answers as r, which is GOOD", x.confounded(0, 1), 0);
        due("r is GOOD", x.confounded(0, 2), 0);
    }

    static void p27_oneReceiverOfEachIsEnough() {
        ScanBench x = told(THREE + "open b 0;stuck q 0;");
        due("p, b 1 of it being GOOD", x.confounded(0, 0), 2);
        due("q", x.confounded(0, 1), 1);
    }

    static void p27_theFirstCellAndTheLastNet() {
        ScanBench x = told(FIRST + "stuck p 0;stuck q 0;");
        due("p", x.confounded(0, 0), 2);
        due("q", x.confounded(0, 1), 1);
        ScanBench six = told(nets(6) + "stuck p 1;stuck u 1;");
        due("the first", six.confounded(1, 0), 32);
        due("the last", six.confounded(1, 5), 1);
    }

    static void p27_oneThatCantBe() {
        ScanBench x = told(THREE + "stuck q 0;stuck p 0;");
        for (int no : NO_KINDS) {
            due("confounded(" + no + ", 0)", x.confounded(no, 0), -1);
        }
        for (int no : NO_NETS) {
            due("confounded(0, " + no + ")", x.confounded(0, no), -1);
        }
        due("confounded(0, 0) without NETS", new ScanBench().confounded(0, 0), -1);
    }

    // ---- 28

    private static void verdicts(String text, int kind, int... wants) {
        ScanBench x = told(text);
        for (int net = 0; net < wants.length; net++) {
            due("verdict(" + kind + ", " + net + ") of " + text, x.verdict(kind, net), wants[net]);
        }
    }

    static void p28_allGoodAheadOfAll0Or1() {
        verdicts(THREE, 0, 0, 0, 0);
        verdicts(SAFE, 0, 0, 0, 0);
        verdicts(DEVICES + "net p from a 0 to b 0 safe 1;net q from a 1 to b 1 safe 1;", 0, 0, 0);
        verdicts(SAFE + "stuck q 0;", 0, 0, 1, 0);
    }

    static void p28_all0OrAll1() {
        verdicts(THREE + "stuck p 0;", 0, 1, 0, 0);
        verdicts(THREE + "stuck p 1;", 0, 2, 0, 0);
        verdicts(THREE + "open b 0;open b 1;floats 1;", 0, 2, 0, 0);
        verdicts(THREE + "open b 0;open b 1;", 1, 1, 0, 0);
        verdicts(THREE + "stuck p 1;", 2, 2, 0, 0);
    }

    static void p28_all0OrAll1AheadOfAlikeAsAnother() {
        verdicts(THREE + "stuck p 0;stuck q 0;", 0, 1, 1, 0);
        verdicts(THREE + "stuck p 1;stuck q 1;", 1, 2, 2, 0);
        verdicts(THREE + "short p q low;", 0, 1, 1, 0);
    }

    static void p28_alikeAndLikeOneOfAnotherNet() {
        verdicts(THREE + "short p q low;", 1, 3, 3, 0);
        verdicts(THREE + "short p r low;", 0, 0, 0, 3);
        verdicts(THREE + "short p r high;", 0, 3, 0, 0);
        verdicts(SAFE + "stuck r 1;short q r low;", 0, 0, 0, 3);
    }

    static void p28_else() {
        // not alike
        verdicts(THREE + "open b 0;", 0, 4, 0, 0);
        verdicts(THREE + "open b 0;stuck p 1;", 0, 4, 0, 0);
        // alike, but as none of another NET: q's one is open
        verdicts(THREE + "short p q low;open b 2;", 1, 4, 1, 0);
        // one GOOD, one that answers like r
        verdicts(THREE + "open b 1;floats 1;short p r high;", 0, 4, 0, 0);
    }

    static void p28_theFirstCellAndTheLastNet() {
        verdicts(FIRST + "short p q low;", 1, 3, 3, 0);
        verdicts(FIRST + "stuck p 1;", 0, 2, 0, 0);
        verdicts(FIRST + "open a 0;", 0, 1, 0, 0);
        verdicts(nets(6) + "short q u low;", 1, 0, 3, 0, 0, 0, 3);
    }

    static void p28_oneThatCantBe() {
        ScanBench x = told(THREE);
        for (int no : NO_KINDS) {
            due("verdict(" + no + ", 0)", x.verdict(no, 0), -1);
        }
        for (int no : NO_NETS) {
            due("verdict(0, " + no + ")", x.verdict(0, no), -1);
        }
        due("verdict(0, 0) without NETS", new ScanBench().verdict(0, 0), -1);
    }

    // ---- 34

    static void p34_noFault() {
        for (int what = 0; what < 2; what++) {
            due("whole", told(THREE).mendFirst(what), -1);
            due("without NETS", new ScanBench().mendFirst(what), -1);
        }
    }

    static void p34_anotherWhat() {
        ScanBench x = told(THREE + "stuck q 1;");
        for (int no : NO_BITS) {
            still(x, "mendFirst(" + no + ")", () -> x.mendFirst(no), -1);
        }
    }

    static void p34_mostAreGoodThen() {
        // p being stuck doesn't show, as both its RECEIVERS are open
        ScanBench x = told(THREE + "stuck p 1;open b 0;open b 1;stuck r 1;");
        due("good", x.good(0), 1);
        due("r", x.mendFirst(0), 5);
        due("good then", x.mendFirst(1), 2);
        x.harm(6);
        x.harm(7);
        still(x, "p", () -> x.mendFirst(0), 1);
        still(x, "good then", () -> x.mendFirst(1), 3);
    }

    static void p34_ofLikeOnesTheFirst() {
        ScanBench x = told(THREE + "stuck q 1;open b 0;");
        due("q ahead of b 0", x.mendFirst(0), 3);
        due("good then", x.mendFirst(1), 3);
        ScanBench y = told(THREE + "open b 3;open b 2;");
        due("b 2 ahead of b 3", y.mendFirst(0), 8);
        ScanBench z = told(THREE + "short q r high;open b 2;");
        due("good", z.good(0), 3);
        due("neither helps alone", z.mendFirst(1), 3);
        due("the open one is ahead", z.mendFirst(0), 8);
    }

    static void p34_thoughNothingHelps() {
        ScanBench x = told(SAFE + "stuck r 0;");
        due("stuck at what is safe", x.mendFirst(0), 4);
        due("good then", x.mendFirst(1), 3);
        ScanBench y = told(DEVICES + "net p from a 0 to b 0;stuck p 0;open b 0;");
        due("none is GOOD either way", y.mendFirst(0), 0);
        due("good then", y.mendFirst(1), 0);
    }

    static void p34_theLastSingleFault() {
        ScanBench x = told(THREE + "short q r high;");
        due("short high of the last two", x.mendFirst(0), 15);
        due("good then", x.mendFirst(1), 4);
    }

    // ---- 35

    private static void safest(String text, int pattern, int count) {
        ScanBench x = told(text);
        due("pattern of " + text, x.safest(0), pattern);
        due("count of " + text, x.safest(1), count);
    }

    static void p35_ofLikeOnesTheLeast() {
        safest(THREE, 0, 4);
        safest(THREE + "short p q high;", 0, 4);
        safest(THREE + "open b 0;open b 2;floats cell;", 2, 4);
        safest("", 0, 0);
    }

    static void p35_mostReadSo() {
        safest(THREE + "stuck q 1;", 2, 4);
        safest(THREE + "open b 0;floats 1;", 1, 4);
        safest(THREE + "open b 0;open b 1;floats 1;", 1, 4);
        safest(THREE + "stuck p 1;open b 1;", 0, 3);
        safest(THREE + "stuck q 1;stuck r 1;stuck p 1;", 7, 4);
        safest(nets(6) + "stuck u 1;", 32, 6);
    }

    static void p35_noNetWithSafeHasAnotherLevel() {
        String safe = DEVICES + "net p from a 0 to b 0 safe 1;net q from a 1 to b 1 b 2;net r from a 2 to b 3;";
        safest(safe, 1, 4);
        safest(safe + "short p q high;", 3, 4);
        safest(safe + "short p q high;stuck p 0;", 3, 4);
        safest(safe + "short p q low;stuck r 1;", 7, 4);
        safest(safe + "short p r high;open b 0;", 4, 4);
        safest(safe + "stuck p 1;", 1, 4);
    }

    static void p35_bothDriversAlike() {
        String two = DEVICES + "net p from a 0 and b 5 to b 0;net q from a 1 and a 2 to b 1 safe 1;";
        safest(two, 2, 2);
        safest(two + "stuck p 1;", 3, 2);
    }

    /** The pattern is of what would be in TEST, not of what is. */
    static void p35_ordersAndLatchesDontMatter() {
        ScanBench x = told(THREE + "stuck q 1;");
        x.scan(1, 0, 5);
        x.scan(0, 4095, 12);
        still(x, "safest(0)", () -> x.safest(0), 2);
        still(x, "safest(1)", () -> x.safest(1), 4);
    }

    static void p35_noneIsSafe() {
        String safe = DEVICES + "net p from a 0 to b 0 safe 1;net q from a 1 to b 1 safe 0;";
        safest(safe + "stuck p 0;", -1, -1);
        safest(safe + "stuck q 1;", -1, -1);
        safest(safe + "short p q low;", -1, -1);
        safest(safe, 1, 2);
    }

    static void p35_anotherWhat() {
        ScanBench x = told(THREE);
        for (int no : NO_BITS) {
            still(x, "safest(" + no + ")", () -> x.safest(no), -1);
        }
    }

    static void p35_clockAsNow() {
        ScanBench x = told(THREE + "open b 2;floats clock;");
        due("behind no CLOCK", x.safest(0), 0);
        x.clock(0, 0);
        still(x, "behind one", () -> x.safest(0), 2);
    }

    // ---- 36

    static void p36_allOrdersAndCells() {
        int[] counts = {0, 2, 2, 3, 3, 3, 3};
        for (int nets = 0; nets <= 6; nets++) {
            ScanBench x = told(nets(nets));
            due("COUNT of " + nets, x.cost(0), 1 + 5 + 6 + counts[nets] * 17);
            due("BOTH of " + nets, x.cost(1), 1 + 5 + 6 + 2 * counts[nets] * 17);
            due("WALKING of " + nets, x.cost(2), 1 + 5 + 6 + nets * 17);
        }
        due("without DEVICES", new ScanBench().cost(1), 7);
        ScanBench most = told("device a ir 4 cells 6;device b ir 4 cells 6;device c ir 4 cells 6;device d ir 4 cells 6;"
            + "net p from a 0 to b 0;net q from a 1 to b 1;net r from a 2 to b 2;net s from a 3 to b 3;net t from a 4 to b 4;");
        due("the most", most.cost(1), 1 + 16 + 6 + 6 * 29);
    }

    /** What it tells is what it takes. */
    static void p36_asItIsDone() {
        ScanBench x = told(THREE);
        due("cost", x.cost(2), 1 + 11 + 3 * 17);
        x.clock(0, 0);
        x.scan(1, 0, 5);
        for (int step = 0; step < 3; step++) {
            x.scan(0, 0, 12);
        }
        due("CLOCKS", x.about(4), 1 + 11 + 3 * 17);
        due("cost, being elsewhere", x.cost(2), 1 + 11 + 3 * 17);
    }

    static void p36_anotherKind() {
        ScanBench x = told(THREE);
        for (int no : NO_KINDS) {
            due("cost(" + no + ")", x.cost(no), -1);
        }
    }

    // ---- 37

    static void p37_allAreGood() {
        due("whole", told(THREE).worst(), -1);
        due("without NETS", new ScanBench().worst(), -1);
        due("stuck at what is safe", told(SAFE + "stuck r 0;").worst(), -1);
    }

    static void p37_mostThatAreNotGood() {
        due("q alone", told(THREE + "stuck q 1;").worst(), 1);
        due("p with two, r with one", told(THREE + "stuck p 1;stuck r 1;").worst(), 0);
        due("r with two, p with one", told(DEVICES + "net p from a 0 to b 0;net q from a 1 to b 1;net r from a 2 to b 2 b 3;"
            + "stuck p 1;stuck r 1;").worst(), 2);
    }

    static void p37_theLastNet() {
        due("u", told(nets(6) + "stuck u 1;").worst(), 5);
        due("none of 6", told(nets(6)).worst(), -1);
    }

    static void p37_ofLikeOnesTheFirst() {
        due("q and r", told(THREE + "stuck q 1;stuck r 1;").worst(), 1);
        due("p with one of two, q", told(THREE + "open b 1;stuck q 1;").worst(), 0);
    }

    // ---- 38

    static void p38_wereWhatIsOpenToReadIt() {
        String safe = DEVICES + "net p from a 0 to b 0 b 1 safe 1;net q from a 1 to b 2;open b 0;open b 2;floats 1;";
        ScanBench x = told(safe);
        due("law(0)", x.law(0), 1);
        due("law(1)", x.law(1), 2);
        due("good", x.good(0), 2);
        ScanBench y = told(safe.replace("floats 1", "floats 0") + "stuck q 1;");
        due("law(0)", y.law(0), 1);
        due("law(1)", y.law(1), 2);
        due("good", y.good(0), 1);
    }

    static void p38_theFirstCellOpen() {
        ScanBench x = told(FIRST.replace("a 0;", "a 0 safe 0;") + "open a 0;floats 1;");
        due("law(0)", x.law(0), 3);
        due("law(1)", x.law(1), 2);
        ScanBench y = told(FIRST.replace("a 0;", "a 0 safe 1;") + "open a 0;");
        due("law(0)", y.law(0), 2);
        due("law(1)", y.law(1), 3);
    }

    static void p38_nothingOpen() {
        due("law(0)", told(THREE).law(0), 4);
        due("law(1)", told(THREE + "stuck q 1;").law(1), 3);
        due("law(0) without NETS", new ScanBench().law(0), 0);
        due("law(1) without NETS", new ScanBench().law(1), 0);
    }

    static void p38_anotherN() {
        ScanBench x = told(THREE);
        for (int no : NO_BITS) {
            still(x, "law(" + no + ")", () -> x.law(no), -1);
        }
    }

    // ---- 39

    private static void odds(int noise, int n, int upper, int lower) {
        ScanBench x = told("noise " + noise + ";");
        due("upper of " + noise + ", " + n, x.odds(n, 0), upper);
        due("lower of " + noise + ", " + n, x.odds(n, 1), lower);
    }

    static void p39_inLowestTerms() {
        odds(30, 1, 7, 10);
        odds(30, 2, 49, 100);
        odds(30, 3, 343, 1000);
        odds(50, 4, 1, 16);
        odds(99, 2, 1, 10000);
        odds(20, 2, 16, 25);
    }

    static void p39_from0To4() {
        odds(30, 0, 1, 1);
        odds(30, 4, 2401, 10000);
        odds(1, 4, 96059601, 100000000);
        odds(99, 4, 1, 100000000);
        odds(30, 5, -1, -1);
        odds(30, -1, -1, -1);
        odds(30, Integer.MAX_VALUE, -1, -1);
        odds(30, Integer.MIN_VALUE, -1, -1);
    }

    static void p39_noughtIs0Of1() {
        odds(100, 1, 0, 1);
        odds(100, 4, 0, 1);
        odds(100, 0, 1, 1);
    }

    static void p39_withoutNoise() {
        odds(0, 0, 1, 1);
        odds(0, 1, 1, 1);
        odds(0, 4, 1, 1);
        due("noise not told", new ScanBench().odds(4, 1), 1);
    }

    static void p39_anotherPart() {
        ScanBench x = told("noise 3;");
        for (int no : NO_BITS) {
            due("odds(1, " + no + ")", x.odds(1, no), -1);
        }
    }

    static void p39_whateverTheSeedIs() {
        for (int draw : new int[] {0, 17, 999}) {
            ScanBench x = told("noise 30;draw " + draw + ";");
            x.scan(0, 0, 1);
            still(x, "odds(3, 0)", () -> x.odds(3, 0), 343);
        }
    }

    public static void main(String[] args) throws Exception {
        run(CodeTest.class);
    }
}
