/** Promises 15 to 17 and 40: walks, and what lies there behind them. */
public final class WalkTest {
    private static final int[][] NEXT = {{1, 0}, {1, 2}, {3, 9}, {4, 5}, {4, 5}, {6, 8}, {6, 7}, {4, 8}, {1, 2}, {10, 0},
        {11, 12}, {11, 12}, {13, 15}, {13, 14}, {11, 15}, {1, 2}};

    private static void due(String what, long got, long want) {
        Check.due(what, got, want);
    }

    private static void walk(ScanBench x, int from, int to, int... tms) {
        due("walk(" + from + ", " + to + ")", x.walk(from, to), tms.length);
        due("about(12)", x.about(12), tms.length);
        for (int i = 0; i < tms.length; i++) {
            due("lies(" + i + ") of " + from + ", " + to, x.lies(i), tms[i]);
        }
        due("lies behind", x.lies(tms.length), -2);
        due("lies ahead", x.lies(-1), -2);
    }

    /** All ways of a length, in the order of their TMS, the first ahead: how many lead there; the first of them is kept. */
    private static int first;

    private static int count(int from, int to, int length) {
        int count = 0;
        for (int way = (1 << length) - 1; way >= 0; way--) {
            int state = from;
            for (int i = length - 1; i >= 0; i--) {
                state = NEXT[state][way >> i & 1];
            }
            if (state == to) {
                count++;
                first = way;
            }
        }
        return count;
    }

    private static void allWalks() {
        ScanBench x = new ScanBench();
        for (int from = 0; from < 16; from++) {
            int farthest = -1;
            int most = -1;
            for (int to = 0; to < 16; to++) {
                int length = 0;
                while (count(from, to, length) == 0) {
                    length++;
                }
                due("walks(" + from + ", " + to + ")", x.walks(from, to), count(from, to, length));
                int[] tms = new int[length];
                for (int i = 0; i < length; i++) {
                    tms[i] = first >> length - 1 - i & 1;
                }
                walk(x, from, to, tms);
                if (length > most) {
                    most = length;
                    farthest = to;
                }
            }
            due("farthest(" + from + ")", x.farthest(from), farthest);
        }
    }

    private static void edges() {
        ScanBench x = new ScanBench();
        walk(x, 1, 0, 1, 1, 1);
        walk(x, 4, 11, 1, 1, 1, 1, 0, 0);
        walk(x, 5, 1, 1, 0);
        due("farthest(0)", x.farthest(0), 14);
        due("farthest(12)", x.farthest(12), 7);
        due("walks(7, 7)", x.walks(7, 7), 1);
        for (int no : new int[] {-1, 16, Integer.MAX_VALUE, Integer.MIN_VALUE}) {
            walk(x, 0, 4, 0, 1, 0, 0);
            due("walk(" + no + ", 0)", x.walk(no, 0), -1);
            due("nothing lies there", x.about(12), 0);
            due("nothing lies there", x.lies(0), -2);
            walk(x, 0, 4, 0, 1, 0, 0);
            due("walk(0, " + no + ")", x.walk(0, no), -1);
            due("nothing lies there", x.lies(0), -2);
            due("walks(" + no + ", 0)", x.walks(no, 0), -1);
            due("walks(0, " + no + ")", x.walks(0, no), -1);
            due("farthest(" + no + ")", x.farthest(no), -1);
        }
        walk(x, 0, 4, 0, 1, 0, 0);
        x.scan(0, 3, 2);
        x.walks(3, 5);
        x.farthest(2);
        due("it lies there still", x.about(12), 4);
        due("it lies there still", x.lies(1), 1);
        due("STATE", x.about(3), 1);
    }

    public static void main(String[] args) {
        allWalks();
        edges();
        Check.finish("WalkTest");
    }
}
