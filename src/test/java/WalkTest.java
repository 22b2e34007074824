/** Promises 15 to 17 and 40: walks, and what lies there behind them. */
public final class WalkTest extends Check {
    static final int[][] NEXT = {{1, 0}, {1, 2}, {3, 9}, {4, 5}, {4, 5}, {6, 8}, {6, 7}, {4, 8}, {1, 2}, {10, 0},
        {11, 12}, {11, 12}, {13, 15}, {13, 14}, {11, 15}, {1, 2}};
    private static final int[] NO_STATES = {-1, 16, Integer.MAX_VALUE, Integer.MIN_VALUE};

    /** In how many ways one comes there by so many clocks. */
    private static int count(int from, int to, int clocks) {
        if (clocks == 0) {
            return from == to ? 1 : 0;
        }
        return count(NEXT[from][0], to, clocks - 1) + count(NEXT[from][1], to, clocks - 1);
    }

    /** The fewest clocks from a state to another one. */
    static int far(int from, int to) {
        int clocks = 0;
        while (count(from, to, clocks) == 0) {
            clocks++;
        }
        return clocks;
    }

    /** The first of the shortest walks, its first TMS as the highest bit, behind a 1 for its length. */
    private static int first(int from, int to) {
        int clocks = far(from, to);
        int way = 1;
        for (int state = from; clocks > 0; clocks--) {
            int tms = count(NEXT[state][0], to, clocks - 1) > 0 ? 0 : 1;
            way = way << 1 | tms;
            state = NEXT[state][tms];
        }
        return way;
    }

    /** Leads a bench to a state by clocks of its own. */
    static void lead(ScanBench x, int to) {
        int way = first(x.about(3), to);
        for (int left = 30 - Integer.numberOfLeadingZeros(way); left >= 0; left--) {
            x.clock(way >> left & 1, 0);
        }
        due("STATE", x.about(3), to);
    }

    private static void walk(ScanBench x, int from, int to, int... tms) {
        due("walk(" + from + ", " + to + ")", x.walk(from, to), tms.length);
        due("about(12)", x.about(12), tms.length);
        for (int i = 0; i < tms.length; i++) {
            due("lies(" + i + ") of " + from + ", " + to, x.lies(i), tms[i]);
        }
        due("lies behind", x.lies(tms.length), -2);
        due("lies ahead", x.lies(-1), -2);
    }

    static void p15_walksBetweenAllStates() {
        for (int from = 0; from < 16; from++) {
            ScanBench x = new ScanBench();
            for (int to = 0; to < 16; to++) {
                int way = first(from, to);
                int[] tms = new int[far(from, to)];
                for (int i = 0; i < tms.length; i++) {
                    tms[i] = way >> tms.length - 1 - i & 1;
                }
                walk(x, from, to, tms);
            }
        }
    }

    static void p15_toItself() {
        for (int state = 0; state < 16; state++) {
            ScanBench x = new ScanBench();
            x.walk(0, 4);
            walk(x, state, state);
        }
    }

    /** The document tells what is first of like ones; but these sixteen states have no two shortest walks. */
    static void p15_noTwoAreLike() {
        for (int from = 0; from < 16; from++) {
            for (int to = 0; to < 16; to++) {
                due("shortest walks from " + from + " to " + to, count(from, to, far(from, to)), 1);
            }
        }
    }

    static void p15_oneThatCantBe() {
        for (int no : NO_STATES) {
            ScanBench x = new ScanBench();
            walk(x, 0, 4, 0, 1, 0, 0);
            due("walk(" + no + ", 0)", x.walk(no, 0), -1);
            due("nothing lies there", x.about(12), 0);
            due("nothing lies there", x.lies(0), -2);
            walk(x, 0, 4, 0, 1, 0, 0);
            due("walk(0, " + no + ")", x.walk(0, no), -1);
            due("nothing lies there", x.about(12), 0);
            due("nothing lies there", x.lies(0), -2);
            due("STATE", x.about(3) + x.about(4), 0);
        }
    }

    static void p15_theFirstAndTheLastState() {
        ScanBench x = new ScanBench();
        walk(x, 0, 15, 0, 1, 1, 0, 1, 1);
        walk(x, 15, 0, 1, 1, 1);
    }

    static void p15_nothingIsDone() {
        ScanBench x = told("device a ir 2 id 1 cells 2;net n from a 0 to a 1;");
        x.walk(0, 4);
        still(x, "walk(0, 4)", () -> x.walk(0, 4), 4);
    }

    static void p16_allWays() {
        for (int from = 0; from < 16; from++) {
            ScanBench x = new ScanBench();
            for (int to = 0; to < 16; to++) {
                due("walks(" + from + ", " + to + ")", x.walks(from, to), count(from, to, far(from, to)));
            }
        }
    }

    static void p16_toItselfOneWay() {
        ScanBench x = new ScanBench();
        for (int state = 0; state < 16; state++) {
            due("walks(" + state + ", " + state + ")", x.walks(state, state), 1);
        }
    }

    static void p16_oneThatCantBe() {
        ScanBench x = new ScanBench();
        x.walk(0, 4);
        for (int no : NO_STATES) {
            still(x, "walks(" + no + ", 0)", () -> x.walks(no, 0), -1);
            still(x, "walks(0, " + no + ")", () -> x.walks(0, no), -1);
        }
        due("walks(0, 15)", x.walks(0, 15), 1);
        due("walks(15, 0)", x.walks(15, 0), 1);
    }

    /** No state has two that are farthest. */
    static void p17_theFarthest() {
        ScanBench x = new ScanBench();
        for (int from = 0; from < 16; from++) {
            int farthest = 0;
            for (int to = 0; to < 16; to++) {
                farthest = far(from, to) > far(from, farthest) ? to : farthest;
            }
            due("farthest(" + from + ")", x.farthest(from), farthest);
        }
        due("farthest(0)", x.farthest(0), 14);
        due("farthest(12)", x.farthest(12), 7);
    }

    static void p17_oneThatCantBe() {
        ScanBench x = new ScanBench();
        x.walk(0, 4);
        for (int no : NO_STATES) {
            still(x, "farthest(" + no + ")", () -> x.farthest(no), -1);
        }
    }

    static void p40_theFirstAndTheLast() {
        ScanBench x = new ScanBench();
        due("lies(0), no walk being told", x.lies(0), -2);
        x.walk(0, 4);
        due("lies(0)", x.lies(0), 0);
        due("lies(3)", x.lies(3), 0);
        due("lies(4)", x.lies(4), -2);
        due("lies(-1)", x.lies(-1), -2);
        due("lies(MIN)", x.lies(Integer.MIN_VALUE), -2);
        due("lies(MAX)", x.lies(Integer.MAX_VALUE), -2);
    }

    static void p40_ofAShorterWalkNoMore() {
        ScanBench x = new ScanBench();
        walk(x, 4, 11, 1, 1, 1, 1, 0, 0);
        walk(x, 5, 1, 1, 0);
        walk(x, 1, 0, 1, 1, 1);
    }

    static void p40_itLiesThereTillTheNextWalk() {
        ScanBench x = told("device a ir 2 id 1 cells 2;net n from a 0 to a 1;");
        walk(x, 0, 4, 0, 1, 0, 0);
        x.scan(0, 3, 2);
        x.harm(0);
        x.undo();
        x.walks(3, 5);
        x.farthest(2);
        x.image(0);
        x.back(0);
        due("board with a fault", tell(x, "$"), -1);
        due("about(12)", x.about(12), 4);
        due("lies(1)", x.lies(1), 1);
    }

    public static void main(String[] args) throws Exception {
        run(WalkTest.class);
    }
}
