/** Promises 22 to 28 and 34 to 39: codes, answers, verdicts, what to mend first, the safest pattern, odds. */
public final class CodeTest {
    private static final String DEVICES = "device a ir 2 cells 6;device b ir 3 cells 6;";
    private static final String THREE = DEVICES + "net p from a 0 to b 0 b 1;net q from a 1 to b 2;net r from a 2 to b 3;";

    private static void due(String what, long got, long want) {
        Check.due(what, got, want);
    }

    private static void steps() {
        int[][] wants = {{0, 0, 0}, {2, 4, 1}, {2, 4, 2}, {3, 6, 3}, {3, 6, 4}, {3, 6, 5}, {3, 6, 6}};
        StringBuilder text = new StringBuilder(DEVICES);
        for (int nets = 0; nets <= 6; nets++) {
            ScanBench x = Check.told(text.toString());
            for (int kind = 0; kind < 3; kind++) {
                due("steps(" + kind + ") of " + nets, x.steps(kind), wants[nets][kind]);
                due("cost(" + kind + ") of " + nets, x.cost(kind), 1 + 5 + 6 + wants[nets][kind] * 17);
            }
            for (int net = 0; net < nets; net++) {
                due("tells(0, " + net + ")", x.tells(0, net), net + 1);
                int ones = (1 << wants[nets][0]) - 1;
                due("tells(1, " + net + ")", x.tells(1, net), net + 1 | (ones - net - 1) << wants[nets][0]);
                due("tells(2, " + net + ")", x.tells(2, net), 1 << net);
            }
            due("tells(0, " + nets + ")", x.tells(0, nets), -1);
            text.append("net ").append((char) ('p' + nets)).append(" from a ").append(nets).append(" to b ").append(nets).append(";");
        }
        ScanBench safe = Check.told(DEVICES + "net p from a 0 to b 0;net q from a 1 to b 2 safe 1;net r from a 2 to b 3 safe 0;");
        due("told what is safe", safe.tells(0, 1), 7);
        due("told what is safe", safe.tells(1, 1), 63);
        due("told what is safe", safe.tells(2, 1), 7);
        due("told what is safe", safe.tells(1, 2), 0);
        due("good", safe.good(1), 3);
    }

    private static void wrongKinds() {
        ScanBench x = Check.told(THREE);
        for (int kind : new int[] {-1, 3, Integer.MAX_VALUE, Integer.MIN_VALUE}) {
            due("steps", x.steps(kind), -1);
            due("tells", x.tells(kind, 0), -1);
            due("answer", x.answer(kind, 1, 0), -1);
            due("good", x.good(kind), -1);
            due("aliased", x.aliased(kind), -1);
            due("confounded", x.confounded(kind, 0), -1);
            due("verdict", x.verdict(kind, 0), -1);
            due("cost", x.cost(kind), -1);
            due("law", x.law(kind == 3 ? 2 : kind), -1);
            due("mendFirst", x.mendFirst(kind), -1);
            due("safest", x.safest(kind), -1);
        }
        for (int net : new int[] {-1, 3, Integer.MIN_VALUE}) {
            due("tells", x.tells(0, net), -1);
            due("confounded", x.confounded(0, net), -1);
            due("verdict", x.verdict(0, net), -1);
        }
        due("answer of a driver", x.answer(0, 0, 0), -1);
        due("answer of no net's", x.answer(0, 1, 4), -1);
        due("answer of none", x.answer(0, 1, 6), -1);
        due("answer of none", x.answer(0, 2, 0), -1);
        due("answer of none", x.answer(0, -1, 0), -1);
        due("answer of none", x.answer(0, 0, -1), -1);
    }

    /** Of each net, of the code COUNT. */
    private static void judged(ScanBench x, String what, int good, int aliased, int... verdicts) {
        due("good of " + what, x.good(0), good);
        due("aliased of " + what, x.aliased(0), aliased);
        for (int net = 0; net < verdicts.length; net++) {
            due("verdict " + net + " of " + what, x.verdict(0, net), verdicts[net]);
        }
    }

    private static void faults() {
        judged(Check.told(THREE), "whole", 4, 0, 0, 0, 0);
        ScanBench low = Check.told(THREE + "short p q low;");
        judged(low, "p q low", 1, 0, 1, 1, 0);
        due("hanging together is not confounded", low.confounded(0, 0), 0);
        due("answer", low.answer(1, 1, 0), 32);
        due("BOTH", low.verdict(1, 0), 3);
        judged(Check.told(THREE + "short r p low;"), "p r low", 3, 4, 0, 0, 3);
        judged(Check.told(THREE + "short r p high;"), "p r high", 2, 1, 3, 0, 0);
        ScanBench stuck = Check.told(THREE + "stuck q 0;stuck p 0;");
        judged(stuck, "p q stuck", 1, 0, 1, 1, 0);
        due("confounded", stuck.confounded(0, 0), 2);
        due("confounded", stuck.confounded(0, 1), 1);
        due("confounded", stuck.confounded(0, 2), 0);
        ScanBench high = Check.told(THREE + "stuck p 1;");
        judged(high, "p stuck at 1", 2, 0, 2, 0, 0);
        due("answer", high.answer(0, 1, 1), 7);
        due("answer", high.answer(2, 1, 1), 7);
        judged(Check.told(THREE + "open b 0;"), "one open", 3, 0, 4, 0, 0);
        judged(Check.told(THREE + "open b 0;open b 1;floats 1;"), "two open", 2, 0, 2, 0, 0);
        ScanBench both = Check.told(THREE + "open b 0;stuck q 0;");
        judged(both, "open and stuck", 2, 0, 4, 1, 0);
        due("open ones are confounded too", both.confounded(0, 0), 2);
        due("open ones are confounded too", both.confounded(0, 1), 1);
        String safe = DEVICES + "net p from a 0 to b 0;net q from a 1 to b 1;net r from a 2 to b 2 safe 0;";
        judged(Check.told(safe + "stuck q 0;"), "stuck like r", 2, 2, 0, 1, 0);
        judged(Check.told(safe + "open b 1;"), "open like r", 2, 0, 0, 1, 0);
        ScanBench like = Check.told(safe + "stuck r 1;short q r low;");
        judged(like, "r reads as q", 2, 4, 0, 0, 3);
    }

    private static void byNow() {
        ScanBench x = Check.told(THREE + "open b 2;floats clock;");
        due("behind no CLOCK", x.answer(0, 1, 2), 0);
        due("safest", x.safest(0), 0);
        x.clock(0, 0);
        due("behind one", x.answer(0, 1, 2), 7);
        due("safest", x.safest(0), 2);
        x.scan(1, 0, 5);
        x.scan(0, 4095, 12);
        due("ORDERS, LATCHES don't matter", x.answer(0, 1, 3), 3);
        due("nothing is done", x.about(4), 1 + 11 + 17);
    }

    private static void mending() {
        ScanBench x = Check.told(THREE);
        due("nothing to mend", x.mendFirst(0), -1);
        due("nothing to mend", x.mendFirst(1), -1);
        due("worst", x.worst(), -1);
        x.harm(3);
        x.harm(6);
        due("good", x.good(0), 2);
        due("the first of like ones", x.mendFirst(0), 3);
        due("good then", x.mendFirst(1), 3);
        due("worst, the first of like ones", x.worst(), 0);
        x.harm(7);
        due("worst", x.worst(), 0);
        x.harm(3);
        x.harm(15);
        due("good", x.good(0), 1);
        due("the short", x.mendFirst(0), 6);
        x.harm(1);
        due("nothing helps more", x.mendFirst(0), 15);
        due("good then", x.mendFirst(1), 2);
        due("faults stay", x.about(2), 4);
        ScanBench y = Check.told(THREE + "stuck q 1;short p r low;");
        due("worst", y.worst(), 1);
        due("without faults", new ScanBench().mendFirst(0), -1);
    }

    private static void laws() {
        ScanBench x = Check.told(DEVICES + "net p from a 0 to b 0 b 1 safe 1;net q from a 1 to b 2;open b 0;open b 2;floats 1;");
        due("law(0)", x.law(0), 1);
        due("law(1)", x.law(1), 2);
        due("good", x.good(0), 2);
        due("nothing open", Check.told(THREE).law(1), 4);
        due("without NETS", new ScanBench().law(0), 0);
    }

    private static void safest(String faults, int pattern, int count) {
        ScanBench x = Check.told(faults);
        due("pattern of " + faults, x.safest(0), pattern);
        due("count of " + faults, x.safest(1), count);
    }

    private static void safestPatterns() {
        safest(THREE, 0, 4);
        safest(THREE + "stuck q 1;", 2, 4);
        safest(THREE + "open b 0;floats 1;", 1, 4);
        safest(THREE + "open b 0;open b 2;floats cell;", 2, 4);
        safest(THREE + "open b 0;open b 1;floats 1;", 1, 4);
        String safe = DEVICES + "net p from a 0 to b 0 safe 1;net q from a 1 to b 1 b 2;net r from a 2 to b 3;";
        safest(safe, 1, 4);
        safest(safe + "stuck p 0;", -1, -1);
        safest(safe + "short p q high;", 3, 4);
        safest(safe + "short p q high;stuck p 0;", 3, 4);
        safest(safe + "short p q low;stuck r 1;", 7, 4);
        safest(safe + "short p r high;open b 0;", 4, 4);
        safest("", 0, 0);
    }

    private static void odds(int noise, int n, int upper, int lower) {
        ScanBench x = Check.told("noise " + noise + ";");
        due("upper of " + noise + ", " + n, x.odds(n, 0), upper);
        due("lower of " + noise + ", " + n, x.odds(n, 1), lower);
    }

    private static void allOdds() {
        odds(30, 0, 1, 1);
        odds(30, 1, 7, 10);
        odds(30, 2, 49, 100);
        odds(30, 3, 343, 1000);
        odds(30, 4, 2401, 10000);
        odds(1, 4, 96059601, 100000000);
        odds(50, 4, 1, 16);
        odds(100, 0, 1, 1);
        odds(100, 1, 0, 1);
        odds(100, 4, 0, 1);
        odds(0, 4, 1, 1);
        odds(30, 5, -1, -1);
        odds(30, -1, -1, -1);
        due("part 2", Check.told("noise 3;").odds(1, 2), -1);
        due("part -1", Check.told("noise 3;").odds(1, -1), -1);
    }

    public static void main(String[] args) {
        steps();
        wrongKinds();
        faults();
        byNow();
        mending();
        laws();
        safestPatterns();
        allOdds();
        Check.finish("CodeTest");
    }
}
