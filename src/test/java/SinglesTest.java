/** Promises 29 to 33 and 41 to 46: single faults, what tells them apart, and which it was by what was seen. */
public final class SinglesTest {
    private static final String DEVICES = "device a ir 2 cells 6;device b ir 3 cells 6;";
    private static final String THREE = DEVICES + "net p from a 0 to b 0 b 1;net q from a 1 to b 2;net r from a 2 to b 3;";

    private static void due(String what, long got, long want) {
        Check.due(what, got, want);
    }

    private static void single(ScanBench x, int single, int... wants) {
        for (int what = 0; what < 4; what++) {
            due("single(" + single + ", " + what + ")", x.single(single, what), wants[what]);
        }
    }

    private static void singles() {
        ScanBench x = Check.told(THREE + "stuck q 1;open b 2;short r q high;");
        due("singles()", x.singles(), 16);
        single(x, 0, 0, 0, 0, 0);
        single(x, 1, 0, 0, 1, 0);
        single(x, 2, 0, 1, 0, 0);
        single(x, 3, 0, 1, 1, 1);
        single(x, 6, 1, 1, 0, 0);
        single(x, 8, 1, 1, 2, 1);
        single(x, 10, 2, 0, 1, 0);
        single(x, 13, 2, 0, 2, 0);
        single(x, 14, 2, 1, 2, 0);
        single(x, 15, 2, 1, 2, 1);
        due("single(16, 0)", x.single(16, 0), -1);
        due("single(-1, 0)", x.single(-1, 0), -1);
        due("single(0, 4)", x.single(0, 4), -1);
        due("single(0, -1)", x.single(0, -1), -1);
        due("receivers are taken device by device", Check.told("device a ir 2 cells 3;device b ir 2 cells 3;"
            + "net p from b 0 to b 2 a 1;net q from a 0 to b 1;").single(4, 1), 0);
        StringBuilder most = new StringBuilder("device a ir 2 cells 6;device b ir 2 cells 6;device c ir 2 cells 6;"
            + "device d ir 2 cells 6;");
        for (int n = 0; n < 6; n++) {
            most.append("net ").append((char) ('p' + n)).append(" from a ").append(n).append(" to b ").append(n);
            most.append(" c ").append(n).append(" d ").append(n).append(";");
        }
        ScanBench y = Check.told(most.toString());
        due("the most of all", y.singles(), 60);
        single(y, 59, 2, 4, 5, 0);
        single(y, 29, 1, 3, 5, 0);
        due("fits, the most of all", y.fits(0), 61);
        due("culprit", y.culprit(60, 0), 59);
        due("told", y.told(0, 0), 60);
        due("least", y.least(), 0);
        due("without NETS", new ScanBench().singles(), 0);
    }

    private static void apart() {
        ScanBench x = Check.told(THREE);
        due("none, none", x.apart(0, -1, -1), 0);
        due("the same", x.apart(1, 5, 5), 0);
        due("q stuck at 0, its one receiver open", x.apart(0, 2, 8), 0);
        due("p stuck at 0, one of its receivers open", x.apart(0, 0, 6), 1);
        due("p and q short, p stuck at 0", x.apart(0, 0, 10), 1);
        due("one and none", x.apart(2, -1, 3), 1);
        due("kind 3", x.apart(3, 0, 1), -2);
        due("kind -1", x.apart(-1, 0, 1), -2);
        due("no such", x.apart(0, 16, 1), -2);
        due("no such", x.apart(0, 1, 16), -2);
        due("no such", x.apart(0, -2, 1), -2);
        due("no such", x.apart(0, 1, -2), -2);
        x.harm(2);
        due("what there is doesn't matter", x.apart(0, 2, -1), 1);
        due("told from none", x.told(0, 0), 16);
        due("told from all: not q, r stuck at 0, open", x.told(0, 1), 12);
        due("kind 3", x.told(3, 0), -1);
        due("kind -1", x.told(-1, 0), -1);
        due("what 2", x.told(0, 2), -1);
        due("what -1", x.told(0, -1), -1);
        due("least()", x.least(), 0);
        ScanBench safe = Check.told(DEVICES + "net p from a 0 to b 0 safe 1;net q from a 1 to b 1;");
        due("stuck as it is safe", safe.apart(1, 1, -1), 0);
        due("stuck as it is not", safe.apart(1, 0, -1), 1);
        due("no code does", safe.least(), -1);
        ScanBench clock = Check.told(THREE + "floats 1-clock;");
        clock.clock(0, 0);
        due("open reads as at clock 0: 1", clock.apart(0, 8, 3), 0);
        due("open reads now: 0", clock.cell(1, 2, 3), 0);
    }

    private static void fits(ScanBench x, int k, int... wants) {
        due("fits(" + k + ")", x.fits(k), wants.length);
        for (int i = 0; i < wants.length; i++) {
            due("culprit(" + i + ", " + k + ")", x.culprit(i, k), wants[i]);
        }
        due("culprit behind", x.culprit(wants.length, k), -2);
        due("culprit ahead", x.culprit(-1, k), -2);
    }

    private static void seen() {
        ScanBench x = Check.told(THREE);
        due("fits(0)", x.fits(0), 17);
        due("culprit(0, 0)", x.culprit(0, 0), -1);
        due("culprit(16, 0)", x.culprit(16, 0), 15);
        due("seen", x.seen(0, 0, 1, 0, false), 0);
        fits(x, 0, 0, 6, 10);
        due("ask COUNT", x.ask(0, 0, 0), 0);
        due("ask COUNT", x.ask(0, 1, 0), 2);
        due("ask BOTH", x.ask(1, 0, 0), 5);
        due("ask BOTH", x.ask(1, 1, 0), 1);
        due("ask WALKING", x.ask(2, 0, 0), 0);
        due("ask WALKING", x.ask(2, 1, 0), 2);
        due("ask kind 3", x.ask(3, 0, 0), -1);
        due("ask what 2", x.ask(0, 2, 0), -1);
        due("ask what -1", x.ask(0, -1, 0), -1);
        x.harm(0);
        x.clock(0, 0);
        fits(x, 0, 0, 6, 10);
        due("later", x.later(5), 5);
        due("seen", x.seen(0, 0, 1, 1, true), 1);
        fits(x, 4, 0, 6, 10);
        fits(x, 5, 6);
        due("ask of one", x.ask(1, 1, 5), 1);
        due("ask of one", x.ask(1, 0, 5), 0);
        due("fits(-1)", x.fits(-1), 17);
        due("fits(MIN)", x.fits(Integer.MIN_VALUE), 17);
        fits(x, Integer.MAX_VALUE, 6);
        due("later", x.later(2), 7);
        Check.due("untell(0)", x.untell(0), true);
        Check.due("untell(0) again", x.untell(0), false);
        Check.due("untell(2)", x.untell(2), false);
        Check.due("untell(-1)", x.untell(-1), false);
        fits(x, 6, 6);
        due("fits(7)", x.fits(7), 14);
        due("seen", x.seen(2, 2, 1, 3, false), 2);
        due("fits(7)", x.fits(7), 4);
        Check.due("untell(2) at the same TIME", x.untell(2), true);
        due("fits(7)", x.fits(7), 14);
        due("seen, against it", x.seen(0, 0, 1, 1, false), 3);
        fits(x, 7);
        due("ask of none", x.ask(0, 0, 7), -1);
        due("ask of none", x.ask(0, 1, 7), -1);
        due("what is SEEN", x.about(8), 4);
        due("the TIME", x.about(9), 7);
    }

    private static void edges() {
        ScanBench x = Check.told(THREE);
        due("kind", x.seen(3, 0, 1, 0, true), -1);
        due("kind", x.seen(-1, 0, 1, 0, true), -1);
        due("step", x.seen(0, 3, 1, 0, true), -1);
        due("step", x.seen(0, -1, 1, 0, true), -1);
        due("step of BOTH", x.seen(1, 6, 1, 0, true), -1);
        due("a driver", x.seen(0, 0, 0, 0, true), -1);
        due("of no NET", x.seen(0, 0, 1, 4, true), -1);
        due("no cell", x.seen(0, 0, 1, 6, true), -1);
        due("no DEVICE", x.seen(0, 0, 2, 0, true), -1);
        due("what is SEEN", x.about(8), 0);
        for (int i = 0; i < 30; i++) {
            due("seen " + i, x.seen(1, 5, 1, 0, true), i);
        }
        due("seen 30", x.seen(1, 5, 1, 0, true), -1);
        x.untell(0);
        due("seen 30, one being untold", x.seen(1, 5, 1, 0, true), -1);
        due("what is SEEN", x.about(8), 30);
        due("later(-1)", x.later(-1), -1);
        due("later(1001)", x.later(1001), -1);
        due("later(0)", x.later(0), 0);
        for (int i = 1; i <= 99; i++) {
            due("later", x.later(1000), 1000 * i);
        }
        due("later(999)", x.later(999), 99999);
        due("later(2)", x.later(2), -1);
        due("later(1)", x.later(1), 100000);
        due("later(1)", x.later(1), -1);
        due("later(0)", x.later(0), 100000);
        due("ask without NETS", new ScanBench().ask(0, 0, 0), -1);
        due("fits without NETS", new ScanBench().fits(0), 1);
        ScanBench clock = Check.told(THREE + "floats 1-clock;");
        clock.clock(0, 0);
        clock.seen(0, 2, 1, 2, true);
        fits(clock, 0, 3, 8);
    }

    public static void main(String[] args) {
        singles();
        apart();
        seen();
        edges();
        Check.finish("SinglesTest");
    }
}
