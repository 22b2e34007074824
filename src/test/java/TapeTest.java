/** Promises 1 to 5: a new object, the tape, the board's text and its faults. */
public final class TapeTest {
    private static void due(String what, long got, long want) {
        Check.due(what, got, want);
    }

    private static void newObject() {
        ScanBench x = new ScanBench();
        int[] wants = {0, 0, 0, 0, 0, 0, 0, 0, 0, 0, 0, 0, 0, 0};
        for (int what = 0; what < wants.length; what++) {
            due("about(" + what + ") of a new one", x.about(what), wants[what]);
        }
        due("fault(0)", x.fault(0), 0);
        due("fault(1)", x.fault(1), -1);
        due("device(0, 0)", x.device(0, 0), -1);
        due("net(0, 0)", x.net(0, 0), -1);
        due("cell(0, 0, 0)", x.cell(0, 0, 0), -2);
        Check.due("undo()", x.undo(), false);
        due("back(0)", x.back(0), -1);
        due("lies(0)", x.lies(0), -2);
        due("scan(1, 11, 4)", x.scan(1, 11, 4), 11);
    }

    private static void feed() {
        ScanBench x = new ScanBench();
        for (int i = 1; i <= 80; i++) {
            due("feed " + i, x.feed(0x20202020, 0x20202020, 0x0a0a0a0a, 0x20202020, 0x20202020), 20 * i);
        }
        due("feed 81", x.feed(0, 0, 0, 0, 0), -1);
        due("about(10)", x.about(10), 1600);
        due("end(1600)", x.end(1600), 1600);
        due("end(1581)", x.end(1581), 1581);
        due("feed behind 1581", x.feed(0, 0, 0, 0, 0), -1);
        due("end(1580)", x.end(1580), 1580);
        // "draw 123;" behind 1580 blanks, then as many of the bytes as are needed
        due("feed behind 1580", x.feed(0x64726177, 0x20313233, 0x3b202020, 0x20202020, 0x20202020), 1600);
        due("board of 1600 bytes", x.board(), 0);
        due("about(5)", x.about(5), 123);
        due("about(10)", x.about(10), 0);
    }

    private static void end() {
        ScanBench x = new ScanBench();
        due("end(0)", x.end(0), 0);
        due("end(1)", x.end(1), -1);
        due("end(-1)", x.end(-1), -1);
        x.feed(1, 2, 3, 4, 5);
        due("end(21)", x.end(21), -1);
        due("end(MIN)", x.end(Integer.MIN_VALUE), -1);
        due("about(10)", x.about(10), 20);
        due("end(7)", x.end(7), 7);
        due("end(8)", x.end(8), -1);
        due("about(10)", x.about(10), 7);
        due("feed", x.feed(0, 0, 0, 0, 0), 27);
        behindTheEnd("draw 7x;", 6, 2, 6);
        behindTheEnd("draw 7", 3, 2, 0);
        behindTheEnd("draw 75", 6, 2, 6);
        behindTheEnd("draw 7;$", 7, 0, -1);
    }

    /** Bytes that were on the tape behind its end don't count. */
    private static void behindTheEnd(String text, int end, int fault, int place) {
        ScanBench x = new ScanBench();
        Check.put(x, text);
        due("end of " + text, x.end(end), end);
        x.board();
        due("fault(0) of " + text + " to " + end, x.fault(0), fault);
        due("fault(1) of " + text + " to " + end, x.fault(1), place);
        due("about(5)", x.about(5), fault == 0 ? 7 : 0);
    }

    private static void boardStaysAtFault() {
        ScanBench x = Check.told("device a ir 2 id 3 cells 2;net n from a 0 to a 1;noise 7;draw 5;floats 1+2;");
        x.later(9);
        x.clock(0, 0);
        x.walk(0, 3);
        x.seen(0, 0, 0, 1, true);
        x.image(1);
        due("a board with a fault", Check.tell(x, "device b ir 2 cells 1;%"), -1);
        due("fault(0)", x.fault(0), 2);
        due("fault(1)", x.fault(1), 22);
        due("fault(2)", x.fault(2), -1);
        due("fault(-1)", x.fault(-1), -1);
        int[] wants = {1, 1, 0, 1, 1, 5, 1, 0, 1, 9, 0, 2, 3, 7};
        for (int what = 0; what < wants.length; what++) {
            due("about(" + what + ") stays", x.about(what), wants[what]);
        }
        due("device(0, 1)", x.device(0, 1), 3);
        Check.due("undo()", x.undo(), true);
        due("back(1)", x.back(1), 1);
        x.clock(0, 0);
        due("another board", Check.tell(x, "device b ir 2 cells 1;device c ir 3 cells 0;"), 2);
        due("fault(0)", x.fault(0), 0);
        due("fault(1)", x.fault(1), -1);
        int[] news = {2, 0, 0, 0, 0, 0, 0, 0, 0, 9, 0, 0, 0, 0};
        for (int what = 0; what < news.length; what++) {
            due("about(" + what + ") of another", x.about(what), news[what]);
        }
        due("back(1)", x.back(1), -1);
        due("lies(0)", x.lies(0), -2);
        due("an empty board", x.board(), 0);
    }

    private static void fault(String text, int fault, int place) {
        ScanBench x = new ScanBench();
        String shown = text.replace('\n', '|');
        due("board of " + shown, Check.tell(x, text) < 0 ? 1 : 0, fault == 0 ? 0 : 1);
        due("fault(0) of " + shown, x.fault(0), fault);
        due("fault(1) of " + shown, x.fault(1), fault == 0 ? -1 : place);
    }

    /** The fault is where the sign ^ stands in the text, which is taken out. */
    private static void faultAt(int fault, String text) {
        fault(text.replace("^", ""), fault, text.indexOf('^'));
    }

    private static void fine(String text) {
        fault(text, 0, -1);
    }

    private static void tokens() {
        fine("");
        fine(" \n ");
        fine("device\na ir2 cells3;net n from a0 to a1 a2\nsafe1;");
        fine("device abcdefgh ir 2 cells 0;");
        faultAt(1, "device ^abcdefghi ir 2 cells 0;");
        faultAt(1, "^devicedevice a");
        fine("draw 0007;");
        faultAt(1, "draw ^00007;");
        faultAt(1, "draw ^7x;");
        faultAt(1, "draw ^7a;");
        faultAt(1, "draw ^7z;");
        faultAt(1, "device a ir^2cells 3;");
        faultAt(1, "draw 7^,");
        faultAt(1, "draw 7 ^\t;");
        faultAt(1, "^Device a");
        faultAt(1, "draw 1;^\u0000");
        faultAt(1, "draw 1;^\u00ff");
        faultAt(1, "floats 1 ^& 2;");
    }

    private static void misplaced() {
        faultAt(2, "^;");
        faultAt(2, "^a");
        faultAt(2, "^7");
        faultAt(2, "^ir");
        faultAt(2, "draw 1;^;");
        faultAt(2, "draw 1^");
        faultAt(2, "draw 1  \n^");
        faultAt(2, "device^");
        faultAt(2, "device a ir 2 cells 1 ^id 3;");
        faultAt(2, "device ^cell ir 2 cells 1;");
        faultAt(2, "device ^clock");
        faultAt(2, "device ^or");
        faultAt(2, "device a ^2");
        faultAt(2, "device a ir ^cells");
        fine("device one ir 2 cells 3;net sum from one 0 to one 1;");
        String four = "device a ir 2 cells 6;device b ir 2 cells 6;device c ir 2 cells 2;device d ir 4 cells 0;";
        fine(four);
        faultAt(2, four + "^device e ir 2 cells 0;");
        String six = "net a from a 0 to a 1;net b from a 2 to a 3;net c from a 4 to a 5;net d from b 0 to b 1;"
            + "net e from b 2 to b 3;net f from b 4 to b 5;";
        fine(four + six);
        faultAt(2, four + six + "^net g from c 0 to c 1;");
        fine(four + "net a from a 0 to a 1 a 2 b 0;");
        faultAt(2, four + "net a from a 0 to a 1 a 2 b 0 ^b 1;");
        faultAt(2, four + "net a from a 0 to a 1 a 2 b 0 ^z");
        faultAt(2, four + "net a from a 0 and a 1 ^and a 2 to a 3;");
        faultAt(2, four + "net a from a 0 to a 1 safe 0 ^safe 1;");
        faultAt(2, four + "net a from a 0 to ^safe 1;");
        faultAt(2, four + six + "short a b ^;");
        faultAt(2, four + six + "short a ^low;");
        faultAt(2, four + six + "stuck a ^b");
        faultAt(2, "noise 1;^noise 1;");
        faultAt(2, "draw 1;^draw");
        faultAt(2, "floats 1;^floats");
    }

    private static void toldAlready() {
        String two = "device a ir 2 cells 6;device b ir 2 cells 6;net a from a 0 to b 0;net b from a 1 to b 1 b 2;"
            + "net c from a 2 to b 3;";
        fine(two);
        faultAt(3, two + "device ^b ir 2 cells 1;");
        faultAt(3, two + "net ^a from");
        faultAt(3, two + "net d from a ^2 to a 3;");
        faultAt(3, two + "net d from a 3 to b ^1;");
        faultAt(3, two + "net d from a 3 and a ^3");
        faultAt(3, two + "net d from a 3 to b 4 b ^4;");
        faultAt(3, two + "short a ^a low;");
        faultAt(3, two + "short a b low;short a ^b high;");
        faultAt(3, two + "short a b low;short b ^a");
        fine(two + "short a b low;short b c high;short c a low;");
        faultAt(3, two + "open b 1;open b ^1;");
        faultAt(3, two + "stuck a 1;stuck ^a 0;");
    }

    private static void numbers() {
        fine("device a ir 4 id 127 cells 6;");
        fine("device a ir 2 id 0 cells 0;");
        faultAt(4, "device a ir ^1 cells 6;");
        faultAt(4, "device a ir ^5");
        faultAt(4, "device a ir 4 id ^128");
        faultAt(4, "device a ir 4 cells ^7");
        String one = "device a ir 2 cells 4;device z ir 2 cells 0;net n from a 0 to a 1;";
        faultAt(4, one + "net m from a ^4");
        faultAt(4, one + "net m from z ^0");
        faultAt(4, one + "net m from a 2 to a 3 safe ^2;");
        faultAt(4, one + "open a ^4;");
        faultAt(4, one + "stuck n ^2;");
        fine("noise 100;draw 999;");
        faultAt(4, "noise ^101;");
        faultAt(4, "draw ^1000;");
        fine("floats 9999;");
    }

    private static void unknown() {
        String one = "device a ir 2 cells 4;net n from a 0 to a 1;";
        faultAt(5, one + "net m from ^n 2 to a 3;");
        faultAt(5, one + "net m from a 2 to ^m 3;");
        faultAt(5, one + "short ^a n low;");
        faultAt(5, one + "short n ^m low;");
        faultAt(5, one + "stuck ^a 1;");
        faultAt(5, one + "open ^n 1;");
        faultAt(5, one + "open a ^0;");
        faultAt(5, one + "open a ^2;");
        faultAt(5, "net m from ^a 0 to a 1;device a ir 2 cells 4;");
    }

    private static void formulas() {
        fine("floats not not not not not not not 1;");
        faultAt(2, "floats not not not not not not not ^not 1;");
        fine("floats (((((((1)))))));");
        faultAt(2, "floats (((((((^(1))))))));");
        fine("floats not (not (not (not 1)));");
        faultAt(2, "floats not (not (not (not ^(1))));");
        fine("floats ((1)) + ((((((1 * (2)))))));");
        faultAt(2, "floats 1 + ^not 2;");
        faultAt(2, "floats 1 = 2 ^= 3;");
        fine("floats (1 = 2) = 3;");
        fine("floats not 1 < 2 and not 2 or 3;");
        faultAt(2, "floats ^-1;");
        faultAt(2, "floats (1^;");
        faultAt(2, "floats 1^);");
        faultAt(2, "floats ^;");
        faultAt(2, "floats 1 ^2;");
        faultAt(2, "floats ^ir;");
        faultAt(2, "floats 1 or^");
        String thirty = "floats 1" + "+cell".repeat(29);
        fine(thirty + ";");
        faultAt(2, thirty + "+^1;");
        faultAt(2, thirty + "+^(1);");
        faultAt(1, thirty + "+^?");
        // a unit ( e ) is one, what is in it are more
        faultAt(2, "floats (1" + "+cell".repeat(28) + "+^1);");
        due("units", Check.told("floats (1" + "+cell".repeat(28) + ");").about(11), 30);
        for (String e : new String[] {"1", "not 1", "1 < 2", "1 + 2", "1 * 2", "(1)", "1 or 2", "1 and 2", "net = clock"}) {
            due("a line behind floats " + e, Check.told("floats " + e + ";draw 77;").about(5), 77);
        }
        due("units", Check.told("floats not device < (clock - net) * ((7));").about(11), 7);
    }

    public static void main(String[] args) {
        newObject();
        feed();
        end();
        boardStaysAtFault();
        tokens();
        misplaced();
        toldAlready();
        numbers();
        unknown();
        formulas();
        Check.finish("TapeTest");
    }
}
