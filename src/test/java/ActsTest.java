/** Promises 9 to 14 and 47 to 49: clocks, scans, harm, undo, boxes. */
public final class ActsTest extends Check {
    /** Of all that an act changes, nothing is as it was at first: by 17 acts. */
    private static ScanBench stirred() {
        ScanBench x = told(TWO + "noise 100;");
        for (int single = 1; single < x.singles(); single += 2) {
            x.harm(single);
        }
        x.scan(1, 16, 5);
        x.scan(0, 31, 5);
        for (int tms : new int[] {1, 0, 0, 0, 1, 1, 1, 1, 0, 0, 0}) {
            x.clock(tms, 1);
        }
        due("ACTS", x.about(6), 17);
        return x;
    }

    // ---- 9

    static void p09_whatCantBe() {
        ScanBench x = told(TWO);
        clocks(x, 0, 1, 0, 0);
        x.undo();
        for (int no : new int[] {-1, 2, 3, Integer.MIN_VALUE, Integer.MAX_VALUE}) {
            still(x, "clock(" + no + ", 0)", () -> x.clock(no, 0), -2);
        }
        ScanBench y = told(TWO);
        for (int no : new int[] {-1, 2, 3, Integer.MIN_VALUE, Integer.MAX_VALUE}) {
            still(y, "clock(0, " + no + ")", () -> y.clock(0, no), -2);
        }
    }

    /** So many clocks take more than 512 calls; what is told of them holds for all that. */
    static void p09_behind9999() {
        ScanBench x = told(TWO);
        for (int i = 0; i < 300 && x.about(4) < 9000; i++) {
            x.scan(1, 0, 30);
        }
        for (int i = x.about(4); i < 9998; i++) {
            x.clock(0, 0);
        }
        due("clock behind 9998", x.clock(0, 0), -1);
        due("CLOCKS", x.about(4), 9999);
        still(x, "clock behind 9999", () -> x.clock(0, 0), -2);
        due("undo", x.undo(), true);
        due("clock behind 9998", x.clock(1, 1), -1);
    }

    static void p09_theNextState() {
        for (int state = 0; state < 16; state++) {
            for (int tms = 0; tms < 2; tms++) {
                ScanBench x = told(TWO);
                WalkTest.lead(x, state);
                int ahead = x.about(4);
                x.clock(tms, 0);
                due("STATE behind " + state + " by " + tms, x.about(3), WalkTest.NEXT[state][tms]);
                due("CLOCKS", x.about(4), ahead + 1);
            }
        }
    }

    /** But that it changes, and is counted. */
    static void p09_inOtherStatesNothingIsDone() {
        for (int state : new int[] {1, 2, 5, 6, 7, 9, 12, 13, 14}) {
            ScanBench x = stirred();
            WalkTest.lead(x, state);
            int[] was = all(x);
            x.clock(1, 1);
            was[3] = WalkTest.NEXT[state][1];
            was[4]++;
            was[6]++;
            same("clock(1, 1) in " + state, x, was);
        }
    }

    static void p09_nothingIsShiftedButInShift() {
        for (int state = 0; state < 16; state++) {
            for (String text : new String[] {TWO, ""}) {
                ScanBench x = told(text);
                WalkTest.lead(x, state);
                int tdo = x.clock(1, 1);
                due("clock in " + state, state == 4 || state == 11 ? tdo >= 0 : tdo == -1, true);
            }
        }
    }

    static void p09_whatComesInGoesOutWithoutDevices() {
        for (int state : new int[] {4, 11}) {
            for (int tdi = 0; tdi < 2; tdi++) {
                ScanBench x = new ScanBench();
                WalkTest.lead(x, state);
                due("clock(0, " + tdi + ") in " + state, x.clock(0, tdi), tdi);
                due("clock(1, " + tdi + ") in " + state, x.clock(1, tdi), tdi);
            }
        }
    }

    static void p09_registersWithoutBits() {
        ScanBench x = told("device a ir 2 cells 0;device b ir 2 cells 0;noise 100;");
        x.scan(1, 0, 4);
        due("length(0)", x.length(0), 0);
        due("what comes in goes out", x.scan(0, 21, 5), 21);
        due("data", x.device(1, 5), 0);
        due("LATCHES", x.device(1, 7), 0);
        // one without bits between two in PASS, which take in 0
        ScanBench y = told("device a ir 2 cells 1;device b ir 2 cells 0;device c ir 2 cells 1;");
        y.scan(1, 3 | 0 << 2 | 3 << 4, 6);
        due("two bits behind", y.scan(0, 15, 4), 12);
    }

    static void p09_theLowestBitGoesOutTheHighestComesIn() {
        ScanBench x = told("device a ir 2 id 64 cells 1;");
        clocks(x, 0, 1, 0, 0);
        due("who it is", x.device(0, 5), 129);
        due("TDO", x.clock(0, 1), 1);
        due("shifted by one, 1 coming in", x.device(0, 5), 64 + 128);
        due("TDO", x.clock(0, 0), 0);
        due("shifted by one, 0 coming in", x.device(0, 5), 96);
        ScanBench y = told("device a ir 2 cells 1;device b ir 4 cells 1;");
        clocks(y, 0, 1, 1, 0, 0);
        due("order register of a", y.device(0, 4), 1);
        due("order register of b", y.device(1, 4), 1);
        due("TDO", y.clock(0, 1), 1);
        due("order register of a", y.device(0, 4), 2);
        due("order register of b", y.device(1, 4), 8);
        due("TDO", y.clock(0, 1), 0);
        due("order register of a", y.device(0, 4), 3);
        due("order register of b", y.device(1, 4), 4);
    }

    static void p09_whatIsTakenInAtCapture() {
        int[] wants = {5, 2 * 127 + 1, 5, 0};
        for (int order = 0; order < 4; order++) {
            ScanBench x = told("device a ir 2 id 127 cells 3;net n from a 0 to a 2 safe 1;stuck n 1;");
            x.scan(1, order, 2);
            clocks(x, 1, 0);
            due("data ahead of it", x.device(0, 5), 0);
            due("CAPTURE gives out nothing", x.clock(1, 1), -1);
            due("data in " + order, x.device(0, 5), wants[order]);
        }
    }

    static void p09_eachTakesInItsOwnCells() {
        ScanBench x = told("device a ir 2 cells 2;device b ir 2 cells 1;device c ir 2 cells 6;device d ir 2 cells 4;"
            + "net k from c 0 to c 1 c 2 c 3 safe 1;net m from d 3 to b 0 d 0 safe 1;net n from c 5 to a 1 safe 1;");
        x.scan(1, 2 | 2 << 2 | 2 << 4 | 2 << 6, 8);
        clocks(x, 1, 0, 0);
        int[] wants = {2, 1, 15 | 32, 8 | 1};
        for (int d = 0; d < 4; d++) {
            due("data of " + d, x.device(d, 5), wants[d]);
        }
    }

    static void p09_fourDevicesWithTheirCells() {
        ScanBench x = told("device a ir 4 cells 6;device b ir 3 cells 6;device c ir 2 cells 6;device d ir 4 id 1 cells 6;"
            + "net k from a 0 to d 5 safe 1;");
        x.scan(1, 0, 13);
        due("what they read", x.scan(0, 41 | 42 << 6 | 43 << 12 | 44 << 18, 24), 0);
        for (int d = 0; d < 4; d++) {
            due("LATCHES of " + d, x.device(d, 7), 44 - d);
            due("ORDER of " + d, x.device(d, 3), 0);
        }
        x.scan(0, 1 << 18, 24);
        due("what a 0 drives d 5 reads", x.scan(0, 0, 24), 32 | 1 << 18);
    }

    static void p09_resetByAClockDoneInReset() {
        ScanBench x = told(TWO);
        x.scan(1, 0, 5);
        x.scan(0, 31, 5);
        clocks(x, 1, 1, 1);
        due("STATE", x.about(3), 0);
        due("ORDER of a, as it was", x.device(0, 3), 0);
        due("data of a, as it was", x.device(0, 5), 7);
        x.clock(1, 0);
        device(x, 0, 2, 5, 3, 1, 0, 0, 8, 7);
        device(x, 1, 3, -1, 2, 7, 0, 0, 1, 3);
    }

    static void p09_resetOfThoseThatHaveTheOrderAlready() {
        ScanBench x = told("device a ir 3 cells 2;");
        x.scan(0, 1, 1);
        clocks(x, 1, 1, 1, 1);
        due("ORDER", x.device(0, 3), 7);
        due("data, the ORDER being the same", x.device(0, 5), 1);
        x.scan(1, 6, 3);
        x.scan(0, 1, 1);
        clocks(x, 1, 1, 1, 1);
        due("ORDER", x.device(0, 3), 7);
        due("data, with another ORDER", x.device(0, 5), 0);
    }

    static void p09_updateIsDoneInUpdate() {
        ScanBench x = told(TWO);
        WalkTest.lead(x, 11);
        for (int i = 0; i < 5; i++) {
            x.clock(i == 4 ? 1 : 0, 0);
        }
        due("STATE", x.about(3), 12);
        x.clock(1, 0);
        due("STATE", x.about(3), 15);
        due("ORDER, as it was", x.device(0, 3), 1);
        x.clock(0, 0);
        due("ORDER", x.device(0, 3), 0);
        WalkTest.lead(x, 4);
        for (int i = 0; i < 5; i++) {
            x.clock(i == 4 ? 1 : 0, 1);
        }
        x.clock(1, 0);
        due("STATE", x.about(3), 8);
        due("LATCHES, as they were", x.device(0, 7), 0);
        x.clock(1, 0);
        due("LATCHES", x.device(0, 7), 7);
        due("STATE", x.about(3), 2);
    }

    static void p09_theSeedModulo1000() {
        int[] draws = {0, 1, 5, 999, 7};
        int[] wants = {71, 208, 756, 934, 30};
        for (int i = 0; i < draws.length; i++) {
            ScanBench x = told("draw " + draws[i] + ";");
            clocks(x, 0, 1, 0);
            due("SEED ahead of CAPTURE", x.about(5), draws[i]);
            x.clock(0, 0);
            due("SEED", x.about(5), wants[i]);
        }
        ScanBench x = told(TWO);
        x.scan(0, 0, 1);
        x.scan(1, 31, 5);
        due("SEED behind one CAPTURE of DATA and one of ORDERS", x.about(5), 71);
    }

    /** 5 * 137 + 71 is 756, of which the rest by 100 is 56. */
    static void p09_noiseIfTheRestIsLess() {
        for (int noise : new int[] {0, 1, 55, 56, 57, 99, 100}) {
            ScanBench x = told("device a ir 2 cells 0;device b ir 2 id 3 cells 1;draw 5;noise " + noise + ";");
            clocks(x, 0, 1, 0, 0);
            due("data by noise " + noise, x.device(1, 5), noise > 56 ? 6 : 7);
        }
        // 17 * 137 + 71 is 2,400
        for (int draw : new int[] {17, 117, 917}) {
            ScanBench x = told("device a ir 2 cells 1;draw " + draw + ";noise 1;");
            clocks(x, 0, 1, 0, 0);
            due("data by noise 1, the rest being 0", x.device(0, 5), 1);
        }
        ScanBench y = told("device a ir 2 cells 1;draw 17;noise 0;");
        clocks(y, 0, 1, 0, 0);
        due("data by noise 0, the rest being 0", y.device(0, 5), 0);
        ScanBench z = told("device a ir 2 cells 1;draw 4;noise 19;");
        clocks(z, 0, 1, 0, 0);
        due("data by noise 19, the rest being 19", z.device(0, 5), 0);
    }

    static void p09_noiseOfTheLastDevice() {
        ScanBench x = told("device a ir 2 cells 2;device b ir 2 id 3 cells 3;noise 100;");
        clocks(x, 0, 1, 0, 0);
        due("data of a", x.device(0, 5), 0);
        due("data of b, WHO", x.device(1, 5), 6);
        x.scan(1, 15, 4);
        x.scan(0, 0, 1);
        clocks(x, 1, 0, 0);
        due("data of a", x.device(0, 5), 0);
        due("data of b, PASS", x.device(1, 5), 1);
        ScanBench y = told("device a ir 2 cells 2;device b ir 2 cells 0;noise 100;");
        y.scan(1, 3 << 2, 4);
        clocks(y, 1, 0, 0);
        due("data of a, the last one having no bits", y.device(0, 5), 0);
        due("data of b", y.device(1, 5), 0);
        due("SEED goes on", y.about(5), 71);
        ScanBench none = told("noise 100;");
        clocks(none, 0, 1, 0, 0);
        due("SEED without DEVICES", none.about(5), 71);
    }

    static void p09_noNoiseButAtCaptureOfData() {
        ScanBench x = told("device a ir 2 cells 2;noise 100;");
        x.scan(1, 3, 2);
        clocks(x, 1, 1, 0, 0);
        due("order register", x.device(0, 4), 1);
        due("SEED", x.about(5), 0);
    }

    static void p09_aWholeWay() {
        ScanBench x = told(TWO);
        int[] tms = {0, 1, 0, 0, 0, 0, 1, 0, 1, 0, 1, 1, 1};
        int[] outs = {-1, -1, -1, -1, 0, 1, 1, -1, -1, -1, 0, -1, -1};
        int[] states = {1, 2, 3, 4, 4, 4, 5, 6, 7, 4, 5, 8, 2};
        for (int i = 0; i < tms.length; i++) {
            due("clock " + i, x.clock(tms[i], 1), outs[i]);
            due("STATE " + i, x.about(3), states[i]);
        }
        int[] orders = {1, 0, 0, 0, 1, 0, 1, 1, 1};
        int[] gone = {9, 10, 11, 11, 12, 13, 14, 15, 2};
        int[] given = {-1, -1, -1, 1, 0, -1, -1, -1, -1};
        for (int i = 0; i < orders.length; i++) {
            due("order clock " + i, x.clock(orders[i], 0), given[i]);
            due("order STATE " + i, x.about(3), gone[i]);
        }
        // two bits were shifted: a has 0 0, b has 1 0 and its own highest one
        device(x, 0, 2, 5, 3, 0, 0, 0, 3, 0);
        device(x, 1, 3, -1, 2, 2, 2, 0, 2, 0);
    }

    // ---- 10

    static void p10_whatCantBe() {
        ScanBench x = told(TWO);
        clocks(x, 0, 1);
        x.undo();
        for (int no : new int[] {-1, 2, Integer.MIN_VALUE, Integer.MAX_VALUE}) {
            still(x, "scan(" + no + ", 0, 1)", () -> x.scan(no, 0, 1), -1);
        }
        ScanBench y = told(TWO);
        for (int no : new int[] {0, -1, 31, Integer.MIN_VALUE, Integer.MAX_VALUE}) {
            still(y, "scan(0, 0, " + no + ")", () -> y.scan(0, 0, no), -1);
        }
    }

    static void p10_oneBit() {
        ScanBench x = new ScanBench();
        due("scan(0, 1, 1)", x.scan(0, 1, 1), 1);
        due("CLOCKS", x.about(4), 4 + 1 + 2);
        due("scan(1, 2, 1)", x.scan(1, 2, 1), 0);
        due("CLOCKS", x.about(4), 7 + 4 + 1 + 2);
    }

    static void p10_30Bits() {
        ScanBench x = new ScanBench();
        due("all of them", x.scan(0, -1, 30), 0x3fffffff);
        due("the highest one", x.scan(0, 1 << 29, 30), 1 << 29);
        due("one too high", x.scan(1, 1 << 30, 30), 0);
        due("the lowest one", x.scan(1, Integer.MIN_VALUE | 1, 30), 1);
        due("CLOCKS", x.about(4), 36 + 35 + 36 + 36);
    }

    static void p10_theLowestFirst() {
        ScanBench x = told("device a ir 2 cells 1;");
        due("by way of one bit", x.scan(0, 6, 4), 12);
        due("by way of one bit", x.scan(0, 9, 3), 2);
        ScanBench y = told("device a ir 2 cells 1;device b ir 3 cells 1;");
        due("1 and 1 were in the registers", y.scan(1, 2 | 1 << 3, 5), 1 | 1 << 3);
        due("the last DEVICE has the lowest ones", y.device(1, 3), 2);
        due("the first one has the highest ones", y.device(0, 3), 1);
    }

    static void p10_fromEachState() {
        for (int state = 0; state < 16; state++) {
            for (int sort = 0; sort < 2; sort++) {
                ScanBench x = told(TWO);
                WalkTest.lead(x, state);
                int ahead = x.about(4);
                x.scan(sort, 0, 3);
                due("CLOCKS from " + state, x.about(4), ahead + WalkTest.far(state, sort == 0 ? 4 : 11) + 3 + 2);
                due("STATE", x.about(3), 1);
            }
        }
    }

    /** From PAUSE nothing is taken in anew, from SHIFT the walk is none. */
    static void p10_fromPauseAndShift() {
        ScanBench x = told(TWO);
        clocks(x, 0, 1, 0, 0, 1, 0);
        due("scan from PAUSE", x.scan(0, 0, 8), 11);
        clocks(x, 1, 0, 0);
        due("scan from SHIFT", x.scan(0, 0, 9), 22);
        // the walk from SHIFT of ORDERS to that of DATA shifts one bit on its way and gives it out
        clocks(x, 1, 1, 0, 0);
        due("STATE", x.about(3), 11);
        due("scan of DATA from there", x.scan(0, 0, 1), 0);
        due("ORDER of a", x.device(0, 3), 0);
        due("ORDER of b", x.device(1, 3), 4);
    }

    static void p10_behind9000() {
        ScanBench x = told(TWO);
        for (int i = 0; i < 256; i++) {
            x.scan(0, 0, 30);
        }
        due("CLOCKS", x.about(4), 36 + 255 * 35);
        for (int i = x.about(4); i < 8999; i++) {
            x.clock(0, 0);
        }
        due("scan behind 8999", x.scan(0, 0, 30), 22);
        due("CLOCKS", x.about(4), 8999 + 35);
        due("undo", x.undo(), true);
        due("clock behind 8999", x.clock(0, 0), -1);
        still(x, "scan behind 9000", () -> x.scan(0, 0, 30), -1);
        due("clock behind 9000", x.clock(0, 0), -1);
        due("scan behind 9001", x.scan(1, 0, 1), -1);
    }

    static void p10_latchesAndOrders() {
        ScanBench x = told(TWO);
        due("who", x.scan(0, 0, 9), 22);
        due("TEST, LOOK", x.scan(1, 2, 5), 9);
        device(x, 0, 2, 5, 3, 0, 0, 0, 3, 0);
        device(x, 1, 3, -1, 2, 2, 2, 0, 2, 0);
        due("latches of a", x.scan(0, 12, 5), 0);
        device(x, 0, 2, 5, 3, 0, 0, 3, 3, 3);
        device(x, 1, 3, -1, 2, 2, 2, 0, 2, 0);
        due("what the cells read", x.scan(0, 31, 5), 31);
        due("LATCHES of a", x.device(0, 7), 7);
        due("data of b, that looks", x.device(1, 5), 3);
        due("LATCHES of b, that looks", x.device(1, 7), 0);
    }

    // ---- 11

    static void p11_noSuchNumber() {
        ScanBench x = told(TWO);
        x.clock(0, 0);
        x.undo();
        due("singles", x.singles(), 8);
        for (int no : new int[] {-1, 8, Integer.MIN_VALUE, Integer.MAX_VALUE}) {
            still(x, "harm(" + no + ")", () -> x.harm(no), -1);
        }
        ScanBench none = new ScanBench();
        still(none, "harm(0) without NETS", () -> none.harm(0), -1);
    }

    static void p11_stuckAtTheOtherOne() {
        ScanBench x = told(TWO + "stuck n 0;stuck m 1;");
        still(x, "n at 1", () -> x.harm(1), -1);
        still(x, "m at 0", () -> x.harm(2), -1);
        due("n at 0 is mended", x.harm(0), 1);
        due("n at 1 is made", x.harm(1), 2);
        still(x, "n at 0", () -> x.harm(0), -1);
        due("stuck at", x.net(0, 3), 1);
    }

    static void p11_shortTheOtherWay() {
        ScanBench x = told(TWO + "short n m low;");
        still(x, "high", () -> x.harm(7), -1);
        due("low is mended", x.harm(6), 0);
        due("high is made", x.harm(7), 1);
        still(x, "low", () -> x.harm(6), -1);
        due("hang together", x.net(0, 7), 3);
        due("level of both, high", x.net(1, 5), 1);
    }

    static void p11_mendedIfThereElseMade() {
        ScanBench x = told(TWO);
        for (int single = 0; single < 8; single++) {
            due("made " + single, x.harm(single), 1);
            due("is there", x.single(single, 3), 1);
            due("faults", x.about(2), 1);
            due("mended " + single, x.harm(single), 0);
            due("is there", x.single(single, 3), 0);
        }
        due("ACTS", x.about(6), 16);
    }

    static void p11_theFirstCellOpen() {
        ScanBench x = told("device a ir 2 cells 2;net n from a 1 to a 0;");
        due("made", x.harm(2), 1);
        due("is open", x.cell(0, 0, 2), 1);
        due("mended", x.harm(2), 0);
        due("is open", x.cell(0, 0, 2), 0);
    }

    static void p11_allThatCanBeAtOnce() {
        ScanBench x = told(TWO);
        due("n at 1", x.harm(1), 1);
        due("m at 0", x.harm(2), 2);
        due("a 2 open", x.harm(4), 3);
        due("b 1 open", x.harm(5), 4);
        due("short high", x.harm(7), 5);
        net(x, 0, 2, 1, 1, 1, 1, 1, 0, 3);
        net(x, 1, 1, 1, -1, 0, 0, 1, 0, 3);
        due("a 2 is open", x.cell(0, 2, 2), 1);
        due("b 1 is open", x.cell(1, 1, 2), 1);
    }

    // ---- 12, 13

    static void p12_none() {
        ScanBench x = told(TWO);
        still(x, "undo()", () -> x.undo() ? 1 : 0, 0);
        x.clock(0, 0);
        due("undo()", x.undo(), true);
        still(x, "undo() once more", () -> x.undo() ? 1 : 0, 0);
    }

    static void p12_40AreKept() {
        ScanBench x = told(TWO);
        for (int i = 0; i < 40; i++) {
            x.clock(0, 0);
        }
        due("ACTS", x.about(6), 40);
        for (int i = 0; i < 40; i++) {
            due("undo " + i, x.undo(), true);
        }
        due("CLOCKS", x.about(4), 0);
        due("undo too far", x.undo(), false);
    }

    static void p12_theOldestGo() {
        ScanBench x = told(TWO);
        for (int i = 0; i < 41; i++) {
            x.clock(0, 0);
        }
        due("ACTS", x.about(6), 40);
        for (int i = 0; i < 40; i++) {
            due("undo " + i, x.undo(), true);
        }
        due("undo too far", x.undo(), false);
        due("CLOCKS", x.about(4), 1);
        due("redone", x.about(7), 40);
        // round the ring once more, from its middle on
        for (int i = 0; i < 20; i++) {
            due("redo " + i, x.redo(), true);
        }
        for (int i = 0; i < 65; i++) {
            x.clock(0, 0);
        }
        due("CLOCKS", x.about(4), 86);
        due("ACTS", x.about(6), 40);
        for (int i = 0; i < 40; i++) {
            due("undo " + i, x.undo(), true);
        }
        due("undo too far", x.undo(), false);
        due("CLOCKS", x.about(4), 46);
    }

    static void p12_actsAreOfThreeSorts() {
        ScanBench x = told(TWO);
        x.clock(0, 0);
        x.scan(1, 0, 5);
        x.harm(0);
        due("ACTS", x.about(6), 3);
        due("undo", x.undo(), true);
        due("faults", x.about(2), 0);
        due("CLOCKS", x.about(4), 12);
        due("undo", x.undo(), true);
        due("CLOCKS", x.about(4), 1);
        due("ORDER", x.device(1, 3), 7);
        due("undo", x.undo(), true);
        due("CLOCKS", x.about(4), 0);
    }

    static void p12_whatIsNoAct() {
        ScanBench x = told(TWO);
        x.clock(0, 0);
        x.clock(0, 0);
        x.undo();
        x.seen(0, 0, 0, 2, true);
        x.untell(0);
        x.later(3);
        x.walk(0, 4);
        x.image(0);
        x.feed(1, 2, 3, 4, 5);
        x.end(7);
        due("ACTS", x.about(6), 1);
        due("redone", x.about(7), 1);
        due("undo", x.undo(), true);
        int[] wants = {2, 2, 0, 0, 0, 0, 0, 2, 1, 3, 7, 0, 4, 0};
        for (int what = 0; what < wants.length; what++) {
            due("about(" + what + ")", x.about(what), wants[what]);
        }
        due("what was UNTOLD", x.untell(0), false);
    }

    static void p12_eachSingleFault() {
        ScanBench x = told(TWO);
        for (int single = 0; single < 8; single++) {
            x.harm(single);
            due("undo", x.undo(), true);
            due("is there, " + single + " taken back", x.single(single, 3) + x.about(2), 0);
            due("redo", x.redo(), true);
            due("is there, " + single + " done again", x.single(single, 3) + x.about(2), 2);
            x.harm(single);
            due("undo", x.undo(), true);
            due("is there, its mending taken back", x.single(single, 3) + x.about(2), 2);
            due("undo", x.undo(), true);
        }
    }

    static void p12_allThatAnActChanges() {
        ScanBench x = stirred();
        int[] was = all(x);
        for (int i = 0; i < 17; i++) {
            x.undo();
        }
        due("about(6)", x.about(6), 0);
        due("faults", x.about(2), 0);
        device(x, 0, 2, 5, 3, 1, 0, 0, 8, 0);
        device(x, 1, 3, -1, 2, 7, 0, 0, 1, 0);
        due("SEED", x.about(5), 0);
        for (int i = 0; i < 17; i++) {
            x.redo();
        }
        same("redone", x, was);
    }

    static void p13_none() {
        ScanBench x = told(TWO);
        still(x, "redo()", () -> x.redo() ? 1 : 0, 0);
        x.clock(0, 0);
        still(x, "redo() behind an ACT", () -> x.redo() ? 1 : 0, 0);
        x.undo();
        due("redo()", x.redo(), true);
        still(x, "redo() once more", () -> x.redo() ? 1 : 0, 0);
        due("CLOCKS", x.about(4), 1);
    }

    static void p13_whatWasTakenBackLast() {
        ScanBench x = told(TWO);
        x.clock(0, 0);
        x.clock(1, 0);
        x.clock(0, 0);
        x.undo();
        x.undo();
        due("STATE", x.about(3), 1);
        due("redo", x.redo(), true);
        due("STATE", x.about(3), 2);
        due("redone", x.about(7), 1);
        due("redo", x.redo(), true);
        due("STATE", x.about(3), 3);
    }

    static void p13_tillAnotherAct() {
        for (int act = 0; act < 3; act++) {
            ScanBench x = told(TWO);
            x.clock(0, 0);
            x.clock(0, 0);
            x.undo();
            int answer = act == 0 ? x.clock(1, 0) : act == 1 ? x.scan(0, 0, 1) : x.harm(3);
            due("the ACT", answer >= -1, true);
            due("redone", x.about(7), 0);
            due("redo", x.redo(), false);
            due("ACTS", x.about(6), 2);
        }
    }

    static void p13_notByOneThatIsRefused() {
        ScanBench x = told(TWO + "stuck n 0;");
        x.clock(0, 0);
        x.undo();
        x.clock(2, 0);
        x.scan(0, 0, 31);
        x.harm(1);
        x.harm(8);
        x.back(0);
        due("redone", x.about(7), 1);
        due("redo", x.redo(), true);
        due("CLOCKS", x.about(4), 1);
    }

    static void p13_40CanBeRedone() {
        ScanBench x = told(TWO);
        for (int i = 0; i < 45; i++) {
            x.clock(0, 0);
        }
        for (int i = 0; i < 40; i++) {
            x.undo();
        }
        due("redone", x.about(7), 40);
        for (int i = 0; i < 40; i++) {
            due("redo " + i, x.redo(), true);
        }
        due("redo too far", x.redo(), false);
        due("CLOCKS", x.about(4), 45);
        due("ACTS", x.about(6), 40);
    }

    // ---- 14

    static void p14_howManyClocks() {
        ScanBench x = told(TWO);
        due("goes(1, 0)", x.goes(1, 0), 0);
        due("goes(0, 1)", x.goes(0, 1), 1);
        due("goes(-1, 30)", x.goes(-1, 30), 0);
        due("goes(0, 30)", x.goes(0, 30), 1);
        for (int no : new int[] {-1, 31, 32, Integer.MIN_VALUE, Integer.MAX_VALUE}) {
            due("goes(0, " + no + ")", x.goes(0, no), -1);
        }
    }

    static void p14_theLowestFirst() {
        ScanBench x = told(TWO);
        due("goes(2, 2)", x.goes(2, 2), 2);
        due("goes(2, 4)", x.goes(2, 4), 4);
        due("goes(6, 5)", x.goes(6, 5), 11);
        due("goes(1 << 29, 30)", x.goes(1 << 29, 30), 2);
        due("goes(1 << 30, 30)", x.goes(1 << 30, 30), 1);
    }

    static void p14_fromTheStateNowAndNothingIsDone() {
        ScanBench x = told(TWO);
        x.clock(0, 0);
        still(x, "goes(1, 2)", () -> x.goes(1, 2), 3);
        still(x, "goes(7, 3)", () -> x.goes(7, 3), 0);
    }

    // ---- 47, 48

    static void p47_noSuchBox() {
        ScanBench x = told(TWO);
        x.clock(0, 0);
        for (int no : new int[] {-1, 3, Integer.MIN_VALUE, Integer.MAX_VALUE}) {
            still(x, "image(" + no + ")", () -> x.image(no), -1);
        }
        due("back(0)", x.back(0), -1);
        due("back(2)", x.back(2), -1);
    }

    static void p47_threeBoxes() {
        ScanBench x = told(TWO);
        due("image(0)", x.image(0), 0);
        x.clock(0, 0);
        due("image(1)", x.image(1), 1);
        x.clock(1, 0);
        due("image(2)", x.image(2), 2);
        x.clock(0, 0);
        due("back(0)", x.back(0), 0);
        due("CLOCKS", x.about(4), 0);
        due("back(2)", x.back(2), 2);
        due("CLOCKS", x.about(4), 2);
        due("back(1)", x.back(1), 1);
        due("CLOCKS", x.about(4), 1);
    }

    static void p47_theLatestStaysInABox() {
        ScanBench x = told(TWO);
        x.image(1);
        x.scan(0, 0, 1);
        due("image(1)", x.image(1), 1);
        x.scan(0, 0, 1);
        due("back(1)", x.back(1), 1);
        due("CLOCKS", x.about(4), 7);
        due("back(1) once more", x.back(1), 1);
        due("CLOCKS", x.about(4), 7);
    }

    static void p47_nothingElseIsDone() {
        ScanBench x = told(TWO);
        x.clock(0, 0);
        x.clock(0, 0);
        x.undo();
        still(x, "image(0)", () -> x.image(0), 1);
    }

    static void p48_nothingWasKept() {
        ScanBench x = told(TWO);
        x.image(1);
        x.clock(0, 0);
        x.clock(0, 0);
        x.undo();
        for (int no : new int[] {0, 2, -1, 3, Integer.MIN_VALUE, Integer.MAX_VALUE}) {
            still(x, "back(" + no + ")", () -> x.back(no), -1);
        }
        due("redo()", x.redo(), true);
    }

    static void p48_noActsAreKept() {
        ScanBench x = told(TWO);
        x.image(0);
        x.clock(0, 0);
        x.clock(0, 0);
        x.undo();
        due("back(0)", x.back(0), 0);
        due("ACTS", x.about(6), 0);
        due("redone", x.about(7), 0);
        due("undo()", x.undo(), false);
        due("redo()", x.redo(), false);
        x.clock(0, 0);
        due("undo()", x.undo(), true);
        due("STATE", x.about(3), 0);
    }

    static void p48_allIsAsItWasKept() {
        ScanBench x = stirred();
        int[] was = all(x);
        was[6] = 0;
        due("image(0)", x.image(0), 11);
        x.scan(1, 9, 5);
        x.harm(1);
        x.harm(5);
        x.harm(7);
        x.scan(0, 5, 6);
        due("back(0)", x.back(0), 11);
        same("back", x, was);
    }

    static void p48_whatIsNotInABoxStays() {
        ScanBench x = told(TWO);
        x.image(0);
        x.seen(0, 0, 1, 1, true);
        x.later(4);
        x.walk(0, 1);
        x.feed(1, 2, 3, 4, 5);
        due("back(0)", x.back(0), 0);
        due("SEEN", x.about(8), 1);
        due("TIME", x.about(9), 4);
        due("TAPE", x.about(10), 20);
        due("what lies there", x.about(12), 1);
    }

    // ---- 49

    static void p49_each() {
        ScanBench x = told(TWO + "stuck n 1;open a 2;noise 100;draw 999;floats 1+cell;");
        x.scan(1, 0, 5);
        x.scan(0, 0, 1);
        x.clock(1, 0);
        x.clock(0, 0);
        x.undo();
        x.walk(0, 4);
        x.seen(0, 0, 1, 1, true);
        x.seen(0, 0, 1, 1, true);
        x.untell(0);
        x.later(1000);
        x.feed(0, 0, 0, 0, 0);
        int[] wants = {2, 2, 2, 2, 12 + 6 + 1, 934, 3, 1, 2, 1000, 20, 2, 4, 100};
        for (int what = 0; what < wants.length; what++) {
            due("about(" + what + ")", x.about(what), wants[what]);
        }
    }

    static void p49_anotherWhat() {
        ScanBench x = told(TWO);
        due("about(-1)", x.about(-1), -1);
        due("about(14)", x.about(14), -1);
        for (int far : FAR) {
            due("about(" + far + ")", x.about(far), -1);
        }
    }

    public static void main(String[] args) throws Exception {
        run(ActsTest.class);
    }
}
