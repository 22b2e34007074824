/** Promises 6 to 8 and 18 to 21: devices, nets and cells as they are now. */
public final class DevicesTest extends Check {
    private static final String FOUR = "device a ir 2 cells 6;device b ir 2 cells 6;net p from a 0 to b 0;net q from a 1 to b 1;"
        + "net r from a 2 to b 2;net s from a 3 to b 3 safe 1;";
    private static final String SAFES = "device a ir 2 cells 6;net p from a 0 to a 1 safe 0;net q from a 2 to a 3 safe 1;"
        + "net r from a 4 to a 5;";

    // ---- 6

    static void p06_noneSuch() {
        for (int devices = 0; devices <= 4; devices++) {
            StringBuilder text = new StringBuilder();
            for (int d = 0; d < devices; d++) {
                text.append("device ").append((char) ('a' + d)).append(" ir 3 cells 2;");
            }
            ScanBench x = told(text.toString());
            for (int what = 0; what < 8; what++) {
                due("device behind the last", x.device(devices, what), -1);
                due("device(-1)", x.device(-1, what), -1);
            }
            if (devices > 0) {
                due("the last DEVICE", x.device(devices - 1, 0), 3);
            }
        }
        ScanBench x = told(TWO);
        for (int far : FAR) {
            due("device(" + far + ", 0)", x.device(far, 0), -1);
        }
    }

    static void p06_anotherWhat() {
        ScanBench x = told(TWO);
        due("device(0, -1)", x.device(0, -1), -1);
        due("device(0, 8)", x.device(0, 8), -1);
        for (int far : FAR) {
            due("device(0, " + far + ")", x.device(0, far), -1);
        }
    }

    static void p06_asTold() {
        ScanBench x = told("device a ir 2 id 0 cells 0;device b ir 4 id 127 cells 6;device c ir 3 cells 1;");
        device(x, 0, 2, 0, 0, 1, 0, 0, 8, 0);
        device(x, 1, 4, 127, 6, 1, 0, 0, 8, 0);
        device(x, 2, 3, -1, 1, 7, 0, 0, 1, 0);
    }

    static void p06_orderAtFirst() {
        ScanBench x = told("device a ir 2 cells 1;device b ir 3 cells 1;device c ir 4 cells 1;device d ir 4 id 0 cells 1;");
        int[] orders = {3, 7, 15, 1};
        for (int d = 0; d < 4; d++) {
            due("ORDER of " + d, x.device(d, 3), orders[d]);
            due("order register of " + d, x.device(d, 4), 0);
        }
    }

    /** TEST and LOOK have the cells as data, WHO 8 bits if there is an id, all others one. */
    static void p06_bitsByOrder() {
        ScanBench x = told("device a ir 4 id 9 cells 6;device b ir 4 cells 5;device c ir 4 id 0 cells 0;");
        for (int order = 0; order < 16; order++) {
            x.scan(1, order | order << 4 | order << 8, 12);
            boolean cells = order == 0 || order == 2;
            due("ORDER", x.device(0, 3), order);
            due("bits of a in " + order, x.device(0, 6), cells ? 6 : order == 1 ? 8 : 1);
            due("bits of b in " + order, x.device(1, 6), cells ? 5 : 1);
            due("bits of c in " + order, x.device(2, 6), cells ? 0 : order == 1 ? 8 : 1);
        }
    }

    static void p06_anotherOrderAndTheDataRegisterIs0() {
        ScanBench x = told("device a ir 3 cells 2;");
        x.scan(0, 1, 1);
        due("data in PASS", x.device(0, 5), 1);
        x.scan(1, 7, 3);
        due("data, the ORDER being the same", x.device(0, 5), 1);
        x.scan(1, 5, 3);
        due("data, being in PASS by another ORDER", x.device(0, 5), 0);
        x.scan(0, 1, 1);
        x.scan(1, 5, 3);
        due("data, the ORDER being the same", x.device(0, 5), 1);
        x.scan(1, 0, 3);
        due("data in TEST", x.device(0, 5), 0);
        x.scan(0, 3, 2);
        x.scan(1, 2, 3);
        due("data in LOOK", x.device(0, 5), 0);
        due("LATCHES stay", x.device(0, 7), 3);
    }

    static void p06_latchesOfThoseInTest() {
        for (int order = 0; order < 4; order++) {
            ScanBench x = told("device a ir 2 id 6 cells 3;");
            x.scan(1, order, 2);
            x.scan(0, 0x1ff, 9);
            due("LATCHES in " + order, x.device(0, 7), order == 0 ? 7 : 0);
        }
    }

    // ---- 7

    static void p07_noneSuch() {
        ScanBench x = told(FOUR);
        due("net(3, 0)", x.net(3, 0), 1);
        for (int what = 0; what < 8; what++) {
            due("net(4, " + what + ")", x.net(4, what), -1);
            due("net(-1, " + what + ")", x.net(-1, what), -1);
        }
        for (int far : FAR) {
            due("net(" + far + ", 0)", x.net(far, 0), -1);
        }
        due("net(0, 0) without NETS", told(nets(0)).net(0, 0), -1);
        ScanBench six = told(nets(6));
        due("net(5, 7)", six.net(5, 7), 32);
        due("net(6, 7)", six.net(6, 7), -1);
    }

    static void p07_anotherWhat() {
        ScanBench x = told(TWO);
        due("net(0, -1)", x.net(0, -1), -1);
        due("net(0, 8)", x.net(0, 8), -1);
        for (int far : FAR) {
            due("net(0, " + far + ")", x.net(0, far), -1);
        }
    }

    static void p07_asTold() {
        ScanBench x = told("device a ir 2 cells 6;device b ir 2 cells 6;net n from a 0 and b 1 to a 1 a 2 b 5;net m from b 0 to b 2 safe 0;"
            + "net k from a 3 to a 4 safe 1;stuck k 0;stuck m 1;");
        net(x, 0, 2, 3, -1, -1, 0, 0, 0, 1);
        net(x, 1, 1, 1, 0, 1, 1, 1, 0, 2);
        net(x, 2, 1, 1, 1, 0, 0, 0, 0, 4);
    }

    static void p07_driveByLatchOrSafe() {
        ScanBench x = told(TWO);
        net(x, 0, 2, 1, 1, -1, 1, 1, 0, 1);
        net(x, 1, 1, 1, -1, -1, 0, 0, 0, 2);
        x.scan(1, 0, 5);
        due("DRIVE by LATCHES of 0", x.net(0, 4), 0);
        // the last DEVICE's bits come first: b 0, then a 0 and a 1
        x.scan(0, 1 | 3 << 2, 5);
        due("DRIVE by LATCHES of 1", x.net(0, 4), 1);
        due("DRIVE by LATCH a 1", x.net(1, 4), 1);
        // a in LOOK, b in TEST: a drives what is safe, or 0
        x.scan(1, 2 << 3, 5);
        due("DRIVE by what is safe", x.net(0, 4), 1);
        due("DRIVE, nothing being told", x.net(1, 4), 0);
        due("LATCHES stay", x.device(0, 7), 3);
    }

    static void p07_bothDriversAndTogether() {
        for (int latches = 0; latches < 4; latches++) {
            ScanBench x = told("device a ir 2 cells 3;net n from a 0 and a 1 to a 2;");
            x.scan(1, 0, 2);
            x.scan(0, latches, 3);
            due("DRIVE by " + latches, x.net(0, 4), latches == 3 ? 1 : 0);
            due("FIGHTS by " + latches, x.net(0, 6), latches == 1 || latches == 2 ? 1 : 0);
            due("fights() by " + latches, x.fights(), x.net(0, 6));
        }
    }

    static void p07_driveByLatchesOfThoseInTestAlone() {
        ScanBench x = told("device a ir 2 cells 2;device b ir 2 cells 2;device c ir 2 cells 2;device d ir 2 cells 2;"
            + "net k from a 0 to a 1 safe 1;net l from b 0 to b 1 safe 1;net m from c 0 to c 1 safe 1;net n from d 0 to d 1 safe 1;");
        for (int test = 0; test < 4; test++) {
            // a has the highest two bits
            int look = 2 | 2 << 2 | 2 << 4 | 2 << 6;
            x.scan(1, look & ~(3 << 6 - 2 * test), 8);
            for (int net = 0; net < 4; net++) {
                due("DRIVE of " + net + " with " + test + " in TEST", x.net(net, 4), net == test ? 0 : 1);
            }
        }
    }

    /** Six nets, each with a driver in a and in b; all in TEST. */
    private static ScanBench doublyDriven() {
        StringBuilder text = new StringBuilder("device a ir 2 cells 6;device b ir 2 cells 6;device c ir 2 cells 6;");
        for (int n = 0; n < 6; n++) {
            text.append("net ").append((char) ('p' + n)).append(" from a ").append(n).append(" and b ").append(n);
            text.append(" to c ").append(n).append(";");
        }
        ScanBench x = told(text.toString());
        x.scan(1, 0, 6);
        return x;
    }

    static void p07_eachNetFightsByItself() {
        ScanBench x = doublyDriven();
        for (int fighting = 0; fighting < 6; fighting++) {
            x.scan(0, 1 << 12 + fighting, 18);
            for (int net = 0; net < 6; net++) {
                due("net(" + net + ", 6)", x.net(net, 6), net == fighting ? 1 : 0);
            }
        }
    }

    static void p07_stuckIsItsDrive() {
        for (int at = 0; at < 2; at++) {
            ScanBench x = told("device a ir 2 cells 3;net n from a 0 and a 1 to a 2;stuck n " + at + ";");
            x.scan(1, 0, 2);
            x.scan(0, at == 0 ? 3 : 0, 3);
            net(x, 0, 2, 1, -1, at, at, at, 0, 1);
            x.scan(0, 2, 3);
            net(x, 0, 2, 1, -1, at, at, at, 1, 1);
        }
    }

    static void p07_levelOfThoseThatHangTogether() {
        ScanBench x = told(FOUR + "short s p high;short r q high;short p q high;");
        due("hang together", x.net(3, 7), 15);
        due("the or", x.net(2, 5), 1);
        ScanBench y = told(FOUR + "short s p high;short r q low;short p q high;");
        due("hang together", y.net(0, 7), 15);
        for (int net = 0; net < 4; net++) {
            due("the and, as one of them is low", y.net(net, 5), 0);
            due("DRIVE", y.net(net, 4), net == 3 ? 1 : 0);
        }
    }

    static void p07_levelOfThoseThatDont() {
        ScanBench x = told(FOUR + "short s p high;short q r low;stuck q 1;");
        due("hang together", x.net(0, 7), 9);
        due("hang together", x.net(1, 7), 6);
        due("the or, a low one being elsewhere", x.net(0, 5), 1);
        due("the and with one that is stuck", x.net(1, 5), 0);
        due("DRIVE of it", x.net(1, 4), 1);
    }

    static void p07_theAndOfOnesIs1TheOrOfNoughtsIs0() {
        due("and of 1, 1", told(FOUR + "short s p low;stuck p 1;").net(0, 5), 1);
        due("and of 0, 1", told(FOUR + "short s p low;").net(3, 5), 0);
        due("or of 0, 0", told(FOUR + "short q p high;").net(0, 5), 0);
        due("or of 0, 1", told(FOUR + "short s p high;").net(0, 5), 1);
    }

    // ---- 8

    static void p08_noneSuch() {
        ScanBench x = told("device a ir 2 cells 0;device b ir 2 cells 6;device c ir 2 cells 3;");
        int[] cells = {0, 6, 3, 0};
        for (int d = 0; d < 4; d++) {
            for (int what = 0; what < 4; what++) {
                due("cell behind the last", x.cell(d, cells[d], what), -2);
                due("cell(" + d + ", -1)", x.cell(d, -1, what), -2);
                due("cell(-1, 0)", x.cell(-1, 0, what), -2);
            }
            if (cells[d] > 0) {
                due("the last cell", x.cell(d, cells[d] - 1, 0), -1);
            }
        }
        for (int far : FAR) {
            due("cell(" + far + ", 0, 0)", x.cell(far, 0, 0), -2);
            due("cell(1, " + far + ", 0)", x.cell(1, far, 0), -2);
            due("cell(" + far + ", " + far + ", 0)", x.cell(far, far, 0), -2);
        }
        due("cell(0, 0, 0) without DEVICES", new ScanBench().cell(0, 0, 0), -2);
    }

    static void p08_anotherWhat() {
        ScanBench x = told(TWO);
        due("cell(0, 0, -1)", x.cell(0, 0, -1), -2);
        due("cell(0, 0, 4)", x.cell(0, 0, 4), -2);
        for (int far : FAR) {
            due("cell(0, 0, " + far + ")", x.cell(0, 0, far), -2);
        }
    }

    static void p08_ofNoNet() {
        ScanBench x = told("device a ir 2 cells 4;net n from a 0 to a 2 safe 1;floats 1;");
        cell(x, 0, 1, -1, -1, 0, 0);
        cell(x, 0, 3, -1, -1, 0, 0);
        x.scan(1, 0, 2);
        x.scan(0, 15, 4);
        cell(x, 0, 3, -1, -1, 0, 0);
    }

    static void p08_driversAndReceivers() {
        ScanBench x = told(TWO + "open b 1;");
        cell(x, 0, 0, 0, 0, 0, 1);
        cell(x, 1, 0, 0, 0, 0, 1);
        cell(x, 1, 1, 0, 1, 1, 0);
        cell(x, 0, 1, 1, 0, 0, 0);
        cell(x, 0, 2, 1, 1, 0, 0);
    }

    static void p08_theFirstCellOpen() {
        String first = "device a ir 2 cells 2;net n from a 1 to a 0;open a 0;";
        cell(told(first), 0, 0, 0, 1, 1, 0);
        cell(told(first + "floats 1;"), 0, 0, 0, 1, 1, 1);
        cell(told(first + "floats 0-1;"), 0, 0, 0, 1, 1, 0);
    }

    private static void formula(String e, boolean above) {
        ScanBench x = told("device a ir 2 cells 1;device b ir 2 cells 5;net m from b 0 to b 1;"
            + "net n from b 2 to b 4 b 3;open b 3;floats " + e + ";");
        due("floats " + e, x.cell(1, 3, 3), above ? 1 : 0);
        due("what is not open", x.cell(1, 4, 3), 0);
    }

    static void p08_openReads1IfAbove0() {
        formula("1", true);
        formula("0", false);
        formula("0-1", false);
        formula("9999", true);
        formula("0-9999", false);
        due("floats not told", told("device a ir 2 cells 3;net n from a 0 to a 1 safe 1;open a 1;").cell(0, 1, 3), 0);
    }

    static void p08_numbersOfDeviceCellNet() {
        formula("device=1", true);
        formula("cell=3", true);
        formula("net=1", true);
        formula("device+1=2", true);
        formula("cell+1=4", true);
        formula("net+1=2", true);
        formula("clock+1=1", true);
        ScanBench x = told("device a ir 2 cells 3;net m from a 1 to a 0;open a 0;floats 1-device-cell-net-clock;");
        due("all of the first are 0", x.cell(0, 0, 3), 1);
        ScanBench y = told("device a ir 2 cells 6;device b ir 2 cells 6;device c ir 2 cells 6;device d ir 2 cells 6;net a from a 0 to a 1;"
            + "net b from a 2 to a 3;net c from a 4 to a 5;net d from b 0 to b 1;net e from b 2 to b 3;net f from d 0 to d 5;"
            + "open d 5;floats device=3 and cell=5 and net=5;");
        due("the last of all", y.cell(3, 5, 3), 1);
    }

    static void p08_divisionIsCut() {
        formula("7/2=3", true);
        formula("(0-7)/2=0-3", true);
        formula("7/(0-2)=0-3", true);
        formula("(0-7)%3=0-1", true);
        formula("7%(0-3)=1", true);
        formula("(0-6)%3=0", true);
    }

    static void p08_bothBy0Are0() {
        formula("5/0=0", true);
        formula("(0-5)/0=0", true);
        formula("0/0=0", true);
        formula("5%0=0", true);
        formula("(0-5)%0=0", true);
        formula("7/device/cell/(net-1)", false);
    }

    static void p08_intsWrap() {
        String most = "(9999*9999*21+9999*4790+8416)";
        formula(most, true);
        formula(most + "+1<0", true);
        formula("0-" + most + "-1<0", true);
        formula("0-" + most + "-2=" + most, true);
        formula("(5000*10)*(5000*10)<0", true);
        formula("0-(" + most + "+1)<0", true);
        formula("(" + most + "+1)/(0-1)<0", true);
        formula("(" + most + "+1)%(0-1)=0", true);
        // relations of numbers too far apart for an int to tell by taking one from the other
        formula(most + ">0-" + most, true);
        formula("0-2<" + most, true);
    }

    static void p08_relationsAndOrNotAre1Or0() {
        for (String e : new String[] {"(2<3)+(3>2)+(3=3)=3", "(3<3)=0", "(3>3)=0", "(3=4)=0", "(4<3)=0", "(2>3)=0", "not 0", "(not 0)=1",
            "(not 5)=0", "(not (0-5))=0", "(2 and 3)=1", "(2 and 0)=0", "(0 and 2)=0", "(0-1 and 0-2)=1", "(0 or 5)=1", "(5 or 0)=1",
            "(0 or 0)=0", "(0 or 0-5)=1"}) {
            formula(e, true);
        }
    }

    static void p08_whatBindsMore() {
        for (String e : new String[] {"1+2*3=7", "10-3-2=5", "100/10/5=2", "17%10*2=14", "2*17%10=4", "not 1=2", "(not 0)+1=2",
            "1 or 0 and 0", "not 0 and 1", "not 1 or 1", "1+1<3", "3>1+1"}) {
            formula(e, true);
        }
        formula("(1 or 0)*0", false);
        formula("0 and 0 or 0", false);
        formula("not (0 or 1)", false);
    }

    static void p08_clocksThereWere() {
        ScanBench x = told("device a ir 2 cells 2;net n from a 0 to a 1;open a 1;floats clock%2;");
        due("behind none", x.cell(0, 1, 3), 0);
        x.clock(0, 0);
        due("behind one", x.cell(0, 1, 3), 1);
        x.clock(0, 0);
        due("behind two", x.cell(0, 1, 3), 0);
        x.undo();
        due("behind one again", x.cell(0, 1, 3), 1);
        ScanBench nought = told("device a ir 2 cells 2;net n from a 0 to a 1;open a 1;floats 0;");
        nought.clock(0, 0);
        due("0 behind one is 0", nought.cell(0, 1, 3), 0);
    }

    static void p08_clocksThereWereAtACapture() {
        ScanBench x = told("device a ir 2 cells 2;net n from a 0 to a 1;open a 1;floats clock%2;");
        due("LOOK", x.scan(1, 2, 2), 1);
        due("CLOCKS", x.about(4), 9);
        due("taken in behind 11 CLOCKS", x.scan(0, 0, 2), 2);
        due("taken in behind 16 and 2", x.scan(0, 0, 2), 0);
    }

    // ---- 18 to 21

    static void p18_anotherSort() {
        ScanBench x = told(TWO);
        due("length(-1)", x.length(-1), -1);
        due("length(2)", x.length(2), -1);
        for (int far : FAR) {
            due("length(" + far + ")", x.length(far), -1);
        }
    }

    static void p18_ofDataAsTheyAre() {
        ScanBench x = told(TWO);
        due("WHO and PASS", x.length(0), 9);
        due("ORDERS", x.length(1), 5);
        x.scan(1, 0, 5);
        due("TEST", x.length(0), 5);
        x.scan(1, 31, 5);
        due("PASS", x.length(0), 2);
        due("ORDERS", x.length(1), 5);
    }

    static void p18_noneAndTheMost() {
        due("DATA without DEVICES", new ScanBench().length(0), 0);
        due("ORDERS without DEVICES", new ScanBench().length(1), 0);
        ScanBench x = told("device a ir 4 id 1 cells 6;device b ir 4 id 2 cells 6;device c ir 4 id 3 cells 6;device d ir 4 id 4 cells 6;");
        due("DATA", x.length(0), 32);
        due("ORDERS", x.length(1), 16);
        x.scan(1, 0, 16);
        due("DATA", x.length(0), 24);
        ScanBench none = told("device a ir 2 cells 0;");
        none.scan(1, 0, 2);
        due("DATA without bits", none.length(0), 0);
    }

    static void p19_fromTdoOn() {
        ScanBench x = told("device a ir 2 id 0 cells 1;device b ir 2 cells 1;device c ir 2 id 127 cells 0;");
        due("found(0)", x.found(0), 127);
        due("found(1)", x.found(1), -2);
        due("found(2)", x.found(2), 0);
    }

    static void p19_noneSuch() {
        ScanBench x = told(TWO);
        due("found(1)", x.found(1), 5);
        due("found(2)", x.found(2), -1);
        due("found(-1)", x.found(-1), -1);
        for (int far : FAR) {
            due("found(" + far + ")", x.found(far), -1);
        }
        due("found(0) without DEVICES", new ScanBench().found(0), -1);
    }

    static void p19_wereAllInResetWithoutNoise() {
        ScanBench x = told(TWO + "noise 100;");
        x.scan(1, 0, 5);
        still(x, "found(0)", () -> x.found(0), -2);
        still(x, "found(1)", () -> x.found(1), 5);
    }

    static void p20_netsThatFight() {
        ScanBench x = told(TWO);
        due("none, all driving what is safe", x.fights(), 0);
        x.scan(1, 2, 5);
        // a in TEST drives 0, b in LOOK what is safe
        due("n", x.fights(), 1);
        due("net(0, 6)", x.net(0, 6), 1);
        due("one with one DRIVER", x.net(1, 6), 0);
        x.scan(0, 12, 5);
        due("none", x.fights(), 0);
        due("none without NETS", new ScanBench().fights(), 0);
    }

    static void p20_eachOfSixAndAll() {
        ScanBench x = doublyDriven();
        for (int n = 0; n < 6; n++) {
            x.scan(0, 1 << 12 + n, 18);
            due("fights()", x.fights(), 1 << n);
            x.scan(0, 1 << 6 + n, 18);
            due("fights()", x.fights(), 1 << n);
        }
        x.scan(0, 63 << 12, 18);
        due("fights()", x.fights(), 63);
        x.scan(0, 63 << 12 | 63 << 6, 18);
        due("fights()", x.fights(), 0);
    }

    static void p20_thoseThatAreStuckToo() {
        ScanBench x = told("device a ir 2 cells 3;net n from a 0 and a 1 to a 2;stuck n 1;");
        x.scan(1, 0, 2);
        x.scan(0, 1, 3);
        due("fights()", x.fights(), 1);
    }

    static void p20_notByAShort() {
        ScanBench x = told(FOUR + "short s p low;");
        due("fights()", x.fights(), 0);
    }

    static void p21_none() {
        due("whole", told(SAFES).unsafe(), 0);
        due("stuck as they are safe", told(SAFES + "stuck p 0;stuck q 1;stuck r 1;").unsafe(), 0);
        due("without NETS", new ScanBench().unsafe(), 0);
    }

    static void p21_netsWithSafeWhoseLevelIsAnotherOne() {
        due("p", told(SAFES + "stuck p 1;").unsafe(), 1);
        due("q", told(SAFES + "stuck q 0;").unsafe(), 2);
        due("both", told(SAFES + "stuck q 0;stuck p 1;stuck r 1;").unsafe(), 3);
        due("by a short", told(SAFES + "short p q low;").unsafe(), 2);
        due("by a short", told(SAFES + "short p q high;").unsafe(), 1);
    }

    static void p21_byWhatTheLatchesAreInTest() {
        ScanBench x = told(SAFES);
        x.scan(1, 0, 2);
        due("LATCHES being 0", x.unsafe(), 2);
        x.scan(0, 5, 6);
        due("LATCHES being 1", x.unsafe(), 1);
        x.scan(1, 2, 2);
        due("in LOOK", x.unsafe(), 0);
    }

    public static void main(String[] args) throws Exception {
        run(DevicesTest.class);
    }
}
