/** What the tests share: telling a board by a text, and counting what is not as due. */
final class Check {
    private static int wrong = 0;
    private static int count = 0;

    private Check() {
    }

    static void due(String what, long got, long want) {
        count++;
        if (got != want) {
            wrong++;
            System.out.println(what + " answered " + got + ", due is " + want);
        }
    }

    static void due(String what, boolean got, boolean want) {
        due(what, got ? 1 : 0, want ? 1 : 0);
    }

    /** Puts the text on the tape, byte by byte; the tape has to be empty. */
    static void put(ScanBench x, String text) {
        for (int i = 0; i < text.length(); i += 20) {
            x.feed(four(text, i), four(text, i + 4), four(text, i + 8), four(text, i + 12), four(text, i + 16));
        }
        x.end(text.length());
    }

    private static int four(String text, int at) {
        int number = 0;
        for (int i = at; i < at + 4; i++) {
            number = number << 8 | (i < text.length() ? text.charAt(i) & 255 : 0);
        }
        return number;
    }

    static int tell(ScanBench x, String text) {
        put(x, text);
        return x.board();
    }

    static ScanBench told(String text) {
        ScanBench x = new ScanBench();
        if (tell(x, text) < 0) {
            due("board of " + text + ", fault " + x.fault(0) + " at " + x.fault(1), 1, 0);
        }
        return x;
    }

    static void finish(String name) {
        System.out.println(name + ": " + count + " answers, " + wrong + " not as due");
        if (wrong != 0) {
            System.exit(1);
        }
    }
}
