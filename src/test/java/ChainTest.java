/** Promises 6 to 14, 18 to 21, 47 to 49: devices, nets and cells as they are, clocks, scans, harm, undo, boxes. */
public final class ChainTest {
    private static final String TWO = "device a ir 2 id 5 cells 3;device b ir 3 cells 2;"
        + "net n from a 0 and b 0 to b 1 safe 1;net m from a 1 to a 2;";

    private static void due(String what, long got, long want) {
        Check.due(what, got, want);
    }

    private static void device(ScanBench x, int device, int... wants) {
        for (int what = 0; what < 8; what++) {
            due("device(" + device + ", " + what + ")", x.device(device, what), wants[what]);
        }
        due("device(.., -1)", x.device(device, -1), -1);
        due("device(.., 8)", x.device(device, 8), -1);
    }

    private static void net(ScanBench x, int net, int... wants) {
        for (int what = 0; what < 8; what++) {
            due("net(" + net + ", " + what + ")", x.net(net, what), wants[what]);
        }
        due("net(.., -1)", x.net(net, -1), -1);
        due("net(.., 8)", x.net(net, 8), -1);
    }

    private static void cell(ScanBench x, int device, int cell, int... wants) {
        for (int what = 0; what < 4; what++) {
            due("cell(" + device + ", " + cell + ", " + what + ")", x.cell(device, cell, what), wants[what]);
        }
        due("cell(.., -1)", x.cell(device, cell, -1), -2);
        due("cell(.., 4)", x.cell(device, cell, 4), -2);
    }

    private static void atFirst() {
        ScanBench x = Check.told(TWO);
        device(x, 0, 2, 5, 3, 1, 0, 0, 8, 0);
        device(x, 1, 3, -1, 2, 7, 0, 0, 1, 0);
        due("device(2, 0)", x.device(2, 0), -1);
        due("device(-1, 0)", x.device(-1, 0), -1);
        net(x, 0, 2, 1, 1, -1, 1, 1, 0, 1);
        net(x, 1, 1, 1, -1, -1, 0, 0, 0, 2);
        due("net(2, 0)", x.net(2, 0), -1);
        due("net(-1, 0)", x.net(-1, 0), -1);
        cell(x, 0, 0, 0, 0, 0, 1);
        cell(x, 0, 1, 1, 0, 0, 0);
        cell(x, 0, 2, 1, 1, 0, 0);
        cell(x, 1, 1, 0, 1, 0, 1);
        due("cell(1, 2, 0)", x.cell(1, 2, 0), -2);
        due("cell(2, 0, 0)", x.cell(2, 0, 0), -2);
        due("cell(0, -1, 0)", x.cell(0, -1, 0), -2);
        due("length(0)", x.length(0), 9);
        due("length(1)", x.length(1), 5);
        due("length(2)", x.length(2), -1);
        due("length(-1)", x.length(-1), -1);
        due("found(0)", x.found(0), -2);
        due("found(1)", x.found(1), 5);
        due("found(2)", x.found(2), -1);
        due("found(-1)", x.found(-1), -1);
        cell(Check.told("device a ir 2 cells 1;"), 0, 0, -1, -1, 0, 0);
    }

    private static void scans() {
        ScanBench x = Check.told(TWO);
        due("who", x.scan(0, 0, 9), 22);
        due("CLOCKS", x.about(4), 15);
        due("STATE", x.about(3), 1);
        due("TEST, LOOK", x.scan(1, 2, 5), 9);
        due("CLOCKS", x.about(4), 26);
        device(x, 0, 2, 5, 3, 0, 0, 0, 3, 0);
        device(x, 1, 3, -1, 2, 2, 2, 0, 2, 0);
        due("length(0)", x.length(0), 5);
        due("fights()", x.fights(), 1);
        due("unsafe()", x.unsafe(), 1);
        net(x, 0, 2, 1, 1, -1, 0, 0, 1, 1);
        due("latches of a", x.scan(0, 12, 5), 0);
        device(x, 0, 2, 5, 3, 0, 0, 3, 3, 3);
        device(x, 1, 3, -1, 2, 2, 2, 0, 2, 0);
        due("fights()", x.fights(), 0);
        due("unsafe()", x.unsafe(), 0);
        cell(x, 0, 2, 1, 1, 0, 1);
        due("what the cells read", x.scan(0, 31, 5), 31);
        due("LATCHES of a", x.device(0, 7), 7);
        due("data of b, that looks", x.device(1, 5), 3);
        due("LATCHES of b, that looks", x.device(1, 7), 0);
        due("TEST, TEST", x.scan(1, 0, 5), 9);
        due("data of a, with the same ORDER", x.device(0, 5), 7);
        due("data of b, with another ORDER", x.device(1, 5), 0);
        due("fights()", x.fights(), 1);
        due("found(1) stays", x.found(1), 5);
    }

    private static void reset() {
        ScanBench x = Check.told(TWO);
        x.scan(1, 0, 5);
        x.scan(0, 31, 5);
        x.clock(1, 0);
        x.clock(1, 0);
        x.clock(1, 0);
        due("STATE", x.about(3), 0);
        due("ORDER of a, as it was", x.device(0, 3), 0);
        due("data of a", x.device(0, 5), 7);
        x.clock(1, 0);
        device(x, 0, 2, 5, 3, 1, 0, 0, 8, 7);
        device(x, 1, 3, -1, 2, 7, 0, 0, 1, 3);
        ScanBench y = Check.told("device a ir 2 id 5 cells 3;device b ir 3 cells 2;");
        due("1 is PASS without id", y.scan(1, 1 | 1 << 3, 5), 9);
        due("bits of a", y.device(0, 6), 8);
        due("bits of b", y.device(1, 6), 1);
        due("3 is PASS", y.scan(1, 2 | 3 << 3, 5), 9);
        due("bits of a", y.device(0, 6), 1);
        due("bits of b", y.device(1, 6), 2);
    }

    private static void clocks() {
        ScanBench x = Check.told(TWO);
        int[] tms = {0, 1, 0, 0, 0, 0, 1, 0, 1, 0, 1, 1, 1};
        int[] outs = {-1, -1, -1, -1, 0, 1, 1, -1, -1, -1, 0, -1, -1};
        int[] states = {1, 2, 3, 4, 4, 4, 5, 6, 7, 4, 5, 8, 2};
        for (int i = 0; i < tms.length; i++) {
            due("clock " + i, x.clock(tms[i], 1), outs[i]);
            due("STATE " + i, x.about(3), states[i]);
            due("CLOCKS " + i, x.about(4), i + 1);
        }
        due("clock(2, 0)", x.clock(2, 0), -2);
        due("clock(0, 2)", x.clock(0, 2), -2);
        due("clock(-1, 0)", x.clock(-1, 0), -2);
        due("clock(0, -1)", x.clock(0, -1), -2);
        due("ACTS", x.about(6), 13);
        due("CLOCKS", x.about(4), 13);
        int[] orders = {1, 0, 0, 0, 1, 0, 1, 1, 1};
        int[] gone = {9, 10, 11, 11, 12, 13, 14, 15, 2};
        int[] given = {-1, -1, -1, 1, 0, -1, -1, -1, -1};
        for (int i = 0; i < orders.length; i++) {
            due("order clock " + i, x.clock(orders[i], 0), given[i]);
            due("order STATE " + i, x.about(3), gone[i]);
        }
        // two bits were shifted: a has 0 0, b has 1 0 and its own highest one
        device(x, 0, 2, 5, 3, 0, 0, 0, 3, 0);
        device(x, 1, 3, -1, 2, 2, 2, 0, 2, 0);
    }

    private static void scanEdges() {
        ScanBench x = Check.told(TWO);
        due("scan(-1, 0, 1)", x.scan(-1, 0, 1), -1);
        due("scan(2, 0, 1)", x.scan(2, 0, 1), -1);
        due("scan(0, 0, 0)", x.scan(0, 0, 0), -1);
        due("scan(0, 0, 31)", x.scan(0, 0, 31), -1);
        due("ACTS", x.about(6), 0);
        due("scan(0, -1, 30)", x.scan(0, -1, 30), 22 | 0x3ffffe00);
        ScanBench y = Check.told(TWO);
        // from PAUSE on nothing is taken in anew, from SHIFT the walk is none
        for (int tms : new int[] {0, 1, 0, 0, 1, 0}) {
            y.clock(tms, 0);
        }
        due("STATE", y.about(3), 6);
        due("scan from PAUSE", y.scan(0, 0, 8), 11);
        due("CLOCKS", y.about(4), 6 + 2 + 8 + 2);
        y.clock(1, 0);
        y.clock(0, 0);
        y.clock(0, 0);
        due("scan from SHIFT", y.scan(0, 0, 9), 22);
        due("CLOCKS", y.about(4), 21 + 9 + 2);
        // the walk from SHIFT of ORDERS to that of DATA shifts one bit on its way and gives it out
        for (int tms : new int[] {1, 1, 0, 0}) {
            y.clock(tms, 0);
        }
        due("STATE", y.about(3), 11);
        due("scan of DATA from there", y.scan(0, 0, 1), 0);
        due("ORDER of a", y.device(0, 3), 0);
        due("ORDER of b", y.device(1, 3), 4);
        due("CLOCKS", y.about(4), 36 + 5 + 1 + 2);
    }

    private static void registersWithoutBits() {
        ScanBench x = Check.told("device a ir 2 cells 0;device b ir 2 cells 0;noise 100;");
        x.scan(1, 0, 4);
        due("length(0)", x.length(0), 0);
        due("what comes in goes out", x.scan(0, 21, 5), 21);
        due("SEED goes on", x.about(5), 71);
        due("data", x.device(1, 5), 0);
        due("LATCHES", x.device(1, 7), 0);
    }

    private static void noise() {
        for (int noise = 56; noise <= 57; noise++) {
            ScanBench x = Check.told("device a ir 2 cells 0;device b ir 2 id 3 cells 1;draw 5;noise " + noise + ";");
            due("SEED", x.about(5), 5);
            due("noise " + noise, x.scan(0, 0, 9), noise == 56 ? 7 : 6);
            due("SEED", x.about(5), 756);
            due("noise once more", x.scan(0, 0, 9), 6);
            due("SEED", x.about(5), 643);
        }
        ScanBench y = new ScanBench();
        y.scan(0, 0, 1);
        due("SEED without DEVICES", y.about(5), 71);
        due("noise of the only one", Check.told("device a ir 2 cells 1;noise 100;").scan(0, 0, 1), 1);
    }

    private static void manyClocks() {
        ScanBench x = Check.told(TWO);
        for (int i = 0; i < 257; i++) {
            x.scan(0, 0, 30);
        }
        due("CLOCKS", x.about(4), 8996);
        x.clock(0, 0);
        x.clock(0, 0);
        x.clock(0, 0);
        due("CLOCKS", x.about(4), 8999);
        due("scan behind 8999", x.scan(0, 0, 1), 0);
        due("CLOCKS", x.about(4), 9005);
        due("scan behind 9005", x.scan(0, 0, 1), -1);
        Check.due("undo", x.undo(), true);
        due("clock behind 8999", x.clock(0, 0), -1);
        due("scan behind 9000", x.scan(0, 0, 1), -1);
        due("CLOCKS", x.about(4), 9000);
    }

    private static void harm() {
        ScanBench x = Check.told(TWO + "stuck m 1;open b 1;short n m high;");
        due("faults", x.about(2), 3);
        due("singles", x.singles(), 8);
        due("stuck at the other one", x.harm(2), -1);
        due("short the other way", x.harm(6), -1);
        due("no such", x.harm(8), -1);
        due("no such", x.harm(-1), -1);
        due("ACTS", x.about(6), 0);
        net(x, 1, 1, 1, -1, 1, 1, 1, 0, 3);
        due("mended", x.harm(3), 2);
        net(x, 1, 1, 1, -1, -1, 0, 1, 0, 3);
        due("made", x.harm(2), 3);
        net(x, 1, 1, 1, -1, 0, 0, 1, 0, 3);
        due("mended", x.harm(7), 2);
        net(x, 1, 1, 1, -1, 0, 0, 0, 0, 2);
        due("made", x.harm(6), 3);
        net(x, 0, 2, 1, 1, -1, 1, 0, 0, 3);
        due("unsafe()", x.unsafe(), 1);
        due("open reads", x.cell(1, 1, 3), 0);
        due("is open", x.cell(1, 1, 2), 1);
        due("mended", x.harm(5), 2);
        due("is open", x.cell(1, 1, 2), 0);
        due("made", x.harm(4), 3);
        due("is open", x.cell(0, 2, 2), 1);
        due("ACTS", x.about(6), 6);
        due("faults", x.about(2), 3);
    }

    private static void levels() {
        String four = "device a ir 2 cells 6;device b ir 2 cells 6;net p from a 0 to b 0;net q from a 1 to b 1;"
            + "net r from a 2 to b 2;net s from a 3 to b 3 safe 1;";
        ScanBench x = Check.told(four + "short s p high;short r q high;short p q high;");
        due("hang together", x.net(3, 7), 15);
        due("or", x.net(2, 5), 1);
        ScanBench y = Check.told(four + "short s p high;short r q low;short p q high;");
        due("hang together", y.net(0, 7), 15);
        due("and, by one that is low", y.net(3, 5), 0);
        ScanBench z = Check.told(four + "short s p high;short q r low;stuck q 1;");
        due("hang together", z.net(0, 7), 9);
        due("or", z.net(0, 5), 1);
        due("and with one that is stuck", z.net(1, 5), 0);
        due("DRIVE of it", z.net(1, 4), 1);
        due("fights of one that is stuck at a fight", stuckFight().fights(), 1);
    }

    private static ScanBench stuckFight() {
        ScanBench x = Check.told("device a ir 2 cells 3;net n from a 0 and a 1 to a 2;stuck n 1;");
        x.scan(1, 0, 2);
        x.scan(0, 1, 3);
        return x;
    }

    private static void undo() {
        ScanBench x = Check.told(TWO);
        Check.due("undo of none", x.undo(), false);
        Check.due("redo of none", x.redo(), false);
        for (int i = 0; i < 45; i++) {
            x.clock(0, 0);
        }
        due("ACTS", x.about(6), 40);
        for (int i = 0; i < 40; i++) {
            Check.due("undo " + i, x.undo(), true);
        }
        Check.due("undo too far", x.undo(), false);
        due("CLOCKS", x.about(4), 5);
        due("redone", x.about(7), 40);
        for (int i = 0; i < 39; i++) {
            Check.due("redo " + i, x.redo(), true);
        }
        due("CLOCKS", x.about(4), 44);
        due("redone", x.about(7), 1);
        x.harm(0);
        due("redone behind another ACT", x.about(7), 0);
        Check.due("redo behind another ACT", x.redo(), false);
        due("ACTS", x.about(6), 40);
        Check.due("undo", x.undo(), true);
        due("faults", x.about(2), 0);
        x.clock(2, 0);
        x.harm(99);
        x.scan(0, 0, 0);
        due("redone, as nothing was done", x.about(7), 1);
        Check.due("redo", x.redo(), true);
        due("faults", x.about(2), 1);
        everyPart();
    }

    /** All that an ACT changes is taken back, and done again. */
    private static void everyPart() {
        ScanBench x = Check.told(TWO + "noise 100;");
        for (int single = 1; single < x.singles(); single += 2) {
            x.harm(single);
        }
        x.scan(1, 16, 5);
        x.scan(0, 31, 5);
        for (int tms : new int[] {1, 0, 0, 0, 1, 1, 1, 1, 0, 0, 0}) {
            x.clock(tms, 1);
        }
        int[] was = all(x);
        due("image(0)", x.image(0), 11);
        for (int i = 0; i < 17; i++) {
            x.undo();
        }
        due("about(6)", x.about(6), 0);
        due("back to the first", x.about(2), 0);
        for (int i = 0; i < 17; i++) {
            x.redo();
        }
        same(x, was, "redone");
        x.scan(1, 9, 5);
        x.harm(1);
        x.harm(5);
        x.harm(7);
        x.scan(0, 5, 6);
        due("back(0)", x.back(0), 11);
        same(x, was, "back");
    }

    private static int[] all(ScanBench x) {
        int[] all = new int[40];
        for (int i = 0; i < 8; i++) {
            all[i] = x.device(0, i);
            all[8 + i] = x.device(1, i);
            all[16 + i] = x.net(0, i);
            all[24 + i] = x.net(1, i);
            all[32 + i] = x.single(i, 3);
        }
        return all;
    }

    private static void same(ScanBench x, int[] was, String what) {
        int[] is = all(x);
        for (int i = 0; i < was.length; i++) {
            due(what + ", part " + i, is[i], was[i]);
        }
        due(what + ", STATE", x.about(3), 11);
    }

    private static void goes() {
        ScanBench x = Check.told(TWO);
        due("goes(0, 0)", x.goes(0, 0), 0);
        due("goes(5, 0)", x.goes(5, 0), 0);
        due("goes(2, 4)", x.goes(2, 4), 4);
        due("goes(6, 5)", x.goes(6, 5), 11);
        due("goes(-1, 30)", x.goes(-1, 30), 0);
        due("goes(1 << 29, 30)", x.goes(1 << 29, 30), 2);
        due("goes(0, 31)", x.goes(0, 31), -1);
        due("goes(0, -1)", x.goes(0, -1), -1);
        x.clock(0, 0);
        due("goes(1, 2)", x.goes(1, 2), 3);
        due("STATE stays", x.about(3), 1);
    }

    private static void boxes() {
        ScanBench x = Check.told(TWO + "noise 100;");
        x.scan(1, 0, 5);
        x.scan(0, 7, 5);
        x.harm(0);
        x.clock(1, 0);
        due("image(2)", x.image(2), 2);
        due("image(3)", x.image(3), -1);
        due("image(-1)", x.image(-1), -1);
        due("back(0)", x.back(0), -1);
        due("back(3)", x.back(3), -1);
        due("back(-1)", x.back(-1), -1);
        due("ACTS", x.about(6), 4);
        int[] kept = {2, 0, 1, 2, x.about(4), 71};
        x.harm(0);
        x.scan(1, 31, 5);
        x.scan(0, 0, 3);
        x.seen(0, 0, 1, 1, true);
        x.later(4);
        x.walk(0, 1);
        x.undo();
        due("back(2)", x.back(2), 2);
        due("faults", x.about(2), 1);
        due("CLOCKS", x.about(4), kept[4]);
        due("SEED", x.about(5), 71);
        due("ACTS", x.about(6), 0);
        due("redone", x.about(7), 0);
        due("SEEN stays", x.about(8), 1);
        due("TIME stays", x.about(9), 4);
        due("lies there still", x.about(12), 1);
        device(x, 0, 2, 5, 3, 0, 0, 1, 3, 1);
        device(x, 1, 3, -1, 2, 0, 0, 3, 2, 3);
        x.clock(0, 0);
        due("back(2) once more", x.back(2), 2);
        due("about(14)", x.about(14), -1);
        due("about(-1)", x.about(-1), -1);
    }

    private static void formula(String e, boolean above) {
        ScanBench x = Check.told("device a ir 2 cells 1;device b ir 2 cells 5;net m from b 0 to b 1;"
            + "net n from b 2 to b 4 b 3;open b 3;floats " + e + ";");
        due("floats " + e, x.cell(1, 3, 3), above ? 1 : 0);
        due("what is not open", x.cell(1, 4, 3), 0);
    }

    private static void formulas() {
        for (String e : new String[] {"device=1", "cell=3", "net=1", "clock=0", "7/2=3", "(0-7)/2=0-3", "(0-7)%3=0-1",
            "5/0=0", "5%0=0", "1+2*3=7", "10-3-2=5", "100/10/5=2", "17%10*2=14", "not 0", "not 1=2", "(2 and 3)=1",
            "(0 or 5)=1", "1 or 0 and 0", "not 0 and 1", "(not 0)+1=2", "(3>3)=0", "(2<3)+(3>2)=2", "(3<3)=0", "0 or 0-1", "9999"}) {
            formula(e, true);
        }
        for (String e : new String[] {"0", "0-1", "not 2", "1 and 0", "2=3", "0*5", "clock", "(1 or 0)*0", "0-9999"}) {
            formula(e, false);
        }
        // 50000 * 50000 is more than an int has, and wraps below 0
        formula("(5000*10)*(5000*10)<0", true);
        formula("0-(5000*10)*(5000*10)", true);
        ScanBench x = Check.told("device a ir 2 cells 2;net n from a 0 to a 1;open a 1;floats clock%2;");
        due("clock 0", x.cell(0, 1, 3), 0);
        due("LOOK", x.scan(1, 2, 2), 1);
        due("clock 9", x.cell(0, 1, 3), 1);
        due("taken in behind 11 CLOCKS", x.scan(0, 0, 2), 2);
        due("taken in behind 16 and 2", x.scan(0, 0, 2), 0);
    }

    public static void main(String[] args) {
        atFirst();
        scans();
        reset();
        clocks();
        scanEdges();
        registersWithoutBits();
        noise();
        manyClocks();
        harm();
        levels();
        undo();
        goes();
        boxes();
        formulas();
        Check.finish("ChainTest");
    }
}
