/** Promises 1 to 5: a new object, the tape, the board's text (Terms) and its faults. */
public final class TapeTest extends Check {
    private static final int BLANKS = 0x20202020;
    /** "$$$$", of which no byte is of a token. */
    private static final int WRONG = 0x24242424;
    private static final String[] KEYS = {"device", "ir", "id", "cells", "net", "from", "and", "to", "safe", "short", "low",
        "high", "open", "stuck", "floats", "noise", "draw", "or", "not", "cell", "clock"};
    private static final String FOUR = "device a ir 2 cells 6;device b ir 2 cells 6;device c ir 2 cells 2;device d ir 4 cells 0;";
    private static final String SIX = "net a from a 0 to a 1;net b from a 2 to a 3;net c from a 4 to a 5;net d from b 0 to b 1;"
        + "net e from b 2 to b 3;net f from b 4 to b 5;";
    private static final String ONE = "device a ir 2 cells 4;net n from a 0 to a 1;";
    private static final String THREE = "device a ir 2 cells 6;device b ir 2 cells 6;net a from a 0 to b 0;"
        + "net b from a 1 to b 1 b 2;net c from a 2 to b 3;";

    // ---- 1

    static void p01_nothingIsThereAtFirst() {
        ScanBench x = new ScanBench();
        for (int what = 0; what < 14; what++) {
            due("about(" + what + ")", x.about(what), 0);
        }
        due("fault(0)", x.fault(0), 0);
        due("fault(1)", x.fault(1), -1);
        due("device(0, 0)", x.device(0, 0), -1);
        due("net(0, 0)", x.net(0, 0), -1);
        due("cell(0, 0, 0)", x.cell(0, 0, 0), -2);
        due("undo()", x.undo(), false);
        due("redo()", x.redo(), false);
        due("back(0)", x.back(0), -1);
        due("lies(0)", x.lies(0), -2);
        due("scan(1, 11, 4)", x.scan(1, 11, 4), 11);
    }

    static void p01_the512thCallIsAnswered() {
        ScanBench x = new ScanBench();
        for (int i = 1; i < 512; i++) {
            due("clock " + i, x.clock(0, 0), -1);
        }
        due("about(4), the 512th", x.about(4), 511);
    }

    // ---- 2

    /** A tape of so many bytes, all of them blanks. */
    private static ScanBench blanks(int n) {
        ScanBench x = new ScanBench();
        for (int i = 0; i < n; i += 20) {
            x.feed(BLANKS, BLANKS, BLANKS, BLANKS, BLANKS);
        }
        x.end(n);
        return x;
    }

    static void p02_1600BytesAreTaken() {
        ScanBench x = new ScanBench();
        for (int i = 1; i <= 80; i++) {
            due("feed " + i, x.feed(BLANKS, BLANKS, 0x0a0a0a0a, BLANKS, BLANKS), 20 * i);
        }
        due("about(10)", x.about(10), 1600);
    }

    static void p02_nothingComesWereThereMore() {
        for (int n = 1581; n <= 1600; n++) {
            ScanBench x = blanks(n);
            still(x, "feed behind " + n, () -> x.feed(WRONG, WRONG, WRONG, WRONG, WRONG), -1);
            due("board", x.board(), 0);
        }
    }

    static void p02_theLastTwentyThatFitCome() {
        ScanBench x = blanks(1580);
        due("feed", x.feed(BLANKS, BLANKS, BLANKS, BLANKS, 0x20202024), 1600);
        due("board", x.board(), -1);
        due("fault(1)", x.fault(1), 1599);
    }

    static void p02_theHighestByteFirst() {
        for (int i = 0; i < 20; i++) {
            int[] numbers = {BLANKS, BLANKS, BLANKS, BLANKS, BLANKS};
            numbers[i / 4] |= 0xff << 24 - i % 4 * 8;
            ScanBench x = new ScanBench();
            due("feed", x.feed(numbers[0], numbers[1], numbers[2], numbers[3], numbers[4]), 20);
            due("board, byte " + i + " being wrong", x.board(), -1);
            due("fault(1)", x.fault(1), i);
        }
    }

    static void p02_bytesComeBehindThoseThere() {
        ScanBench x = new ScanBench();
        put(x, "draw ");
        due("feed", x.feed(0x3939393b, BLANKS, BLANKS, BLANKS, BLANKS), 25);
        due("board", x.board(), 0);
        due("SEED", x.about(5), 999);
    }

    // ---- 3

    static void p03_allOfThem() {
        ScanBench x = blanks(20);
        due("end(20)", x.end(20), 20);
        due("end(19)", x.end(19), 19);
        due("about(10)", x.about(10), 19);
        ScanBench full = blanks(1600);
        due("end(1600)", full.end(1600), 1600);
    }

    static void p03_noneOfThem() {
        ScanBench x = blanks(20);
        due("end(0)", x.end(0), 0);
        due("about(10)", x.about(10), 0);
        due("end(0) of an empty one", x.end(0), 0);
    }

    static void p03_notSoMany() {
        ScanBench x = blanks(20);
        still(x, "end(21)", () -> x.end(21), -1);
        still(x, "end(MAX)", () -> x.end(Integer.MAX_VALUE), -1);
        ScanBench empty = new ScanBench();
        still(empty, "end(1)", () -> empty.end(1), -1);
        ScanBench full = blanks(1600);
        still(full, "end(1601)", () -> full.end(1601), -1);
    }

    static void p03_belowZero() {
        ScanBench x = blanks(20);
        still(x, "end(-1)", () -> x.end(-1), -1);
        still(x, "end(MIN)", () -> x.end(Integer.MIN_VALUE), -1);
    }

    static void p03_whatIsCutIsGone() {
        ScanBench x = new ScanBench();
        put(x, "draw 7$$;");
        due("end(6)", x.end(6), 6);
        still(x, "end(7)", () -> x.end(7), -1);
        due("feed", x.feed(0x3b202020, BLANKS, BLANKS, BLANKS, BLANKS), 26);
        due("board", x.board(), 0);
        due("SEED", x.about(5), 7);
    }

    static void p03_bytesBehindTheEndAreNoText() {
        String[] texts = {"draw 7x;", "draw 75;", "draw 7;$"};
        int[] ends = {6, 6, 7};
        for (int i = 0; i < texts.length; i++) {
            cut(texts[i], ends[i], i == 2 ? 0 : 2, i == 2 ? -1 : 6);
        }
        cut("draw 1;net", 9, 2, 7);
        cut("device abcdefghi", 15, 2, 15);
        cut("floats 12345", 11, 2, 11);
    }

    private static void cut(String text, int end, int fault, int place) {
        ScanBench x = new ScanBench();
        put(x, text);
        due("end", x.end(end), end);
        due("board of " + text + " to " + end, x.board(), fault == 0 ? 0 : -1);
        due("fault(0)", x.fault(0), fault);
        due("fault(1)", x.fault(1), place);
    }

    // ---- 4

    static void p04_howManyDevices() {
        String[] lines = {"device a ir 2 cells 0;", "device b ir 2 cells 0;", "device c ir 2 cells 0;", "device d ir 2 cells 0;"};
        ScanBench x = new ScanBench();
        StringBuilder text = new StringBuilder();
        due("board of an empty text", x.board(), 0);
        for (int devices = 1; devices <= 4; devices++) {
            text.append(lines[devices - 1]);
            due("board", tell(x, text.toString()), devices);
            due("about(0)", x.about(0), devices);
        }
        due("board of an empty text", x.board(), 0);
        due("about(0)", x.about(0), 0);
    }

    /** A board of which nothing is any more as it was at first. */
    private static ScanBench stirred() {
        ScanBench x = told("device a ir 2 id 3 cells 2;net n from a 0 to a 1;noise 7;draw 5;floats 1+2;stuck n 1;");
        x.later(9);
        x.image(0);
        x.image(1);
        x.image(2);
        x.scan(1, 0, 2);
        x.scan(0, 1, 2);
        x.scan(1, 2, 2);
        x.scan(0, 3, 2);
        x.harm(2);
        x.clock(1, 0);
        x.clock(1, 0);
        x.undo();
        x.walk(0, 4);
        x.seen(0, 0, 0, 1, true);
        return x;
    }

    static void p04_allAsTold() {
        ScanBench x = stirred();
        String text = "device b ir 3 cells 2;net n from b 1 to b 0 safe 1;short n ^";
        due("a wrong board", tell(x, text), -1);
        due("another board", tell(x, "device b ir 3 cells 2;net n from b 1 to b 0 safe 1;stuck n 0;open b 0;noise 8;draw 6;"), 1);
        int[] wants = {1, 1, 2, 0, 0, 6, 0, 0, 0, 9, 0, 0, 0, 8};
        for (int what = 0; what < wants.length; what++) {
            due("about(" + what + ")", x.about(what), wants[what]);
        }
        int[] device = {3, -1, 2, 7, 0, 0, 1, 0};
        for (int what = 0; what < device.length; what++) {
            due("device(0, " + what + ")", x.device(0, what), device[what]);
        }
        int[] net = {1, 1, 1, 0, 0, 0, 0, 1};
        for (int what = 0; what < net.length; what++) {
            due("net(0, " + what + ")", x.net(0, what), net[what]);
        }
        due("singles", x.singles(), 3);
    }

    static void p04_theSameOnceMoreIsWholeAgain() {
        ScanBench x = told(ONE + "stuck n 1;");
        x.harm(1);
        x.harm(2);
        due("board", tell(x, ONE + "stuck n 1;"), 1);
        due("faults", x.about(2), 1);
        due("stuck at", x.net(0, 3), 1);
        due("open", x.cell(0, 1, 2), 0);
    }

    static void p04_whatIsNotToldIsAsAtFirst() {
        ScanBench x = stirred();
        due("board", tell(x, ONE), 1);
        due("noise", x.about(13), 0);
        due("SEED", x.about(5), 0);
        due("units", x.about(11), 0);
        x.harm(2);
        due("what is open reads", x.cell(0, 1, 3), 0);
        due("id", x.device(0, 1), -1);
        due("safe", x.net(0, 2), -1);
    }

    /** Of a text that was told once, and of one that was no board, nothing is left, however many were told ahead. */
    static void p04_nothingOfAnEarlierTextIsLeft() {
        String plain = "device a ir 2 cells 6;device b ir 2 cells 6;net n from a 0 to b 1;net m from a 2 to b 3;";
        String rich = "device a ir 4 id 3 cells 6;device b ir 3 cells 6;net m from b 0 and b 1 to a 1 b 2 safe 1;net k from a 2 to a 3;"
            + "net l from a 4 to a 5 safe 0;short m k low;short k l high;stuck k 1;stuck m 0;open a 1;open a 3;floats 1 or cell;"
            + "noise 7;draw 5;";
        ScanBench fresh = told(plain);
        fresh.harm(4);
        int[] due = all(fresh);
        for (String[] texts : new String[][] {{rich}, {rich, rich}, {rich, plain}, {rich, ""}, {rich, rich, rich}, {rich + "$"},
            {rich, rich + "$", plain + "$"}}) {
            ScanBench x = new ScanBench();
            for (String text : texts) {
                due("board", tell(x, text) < 0, text.endsWith("$"));
                x.clock(0, 0);
            }
            due("board", tell(x, plain), 2);
            x.harm(4);
            same("plain behind " + String.join(" | ", texts), x, due);
        }
    }

    /** What single faults do is worked out anew. */
    static void p04_whatTellsThemApartIsOfTheNewBoard() {
        ScanBench x = told(ONE + "stuck n 1;");
        due("told ahead", x.told(2, 0), 2);
        due("fits ahead", x.fits(0), 4);
        tell(x, "device a ir 2 cells 4;net n from a 0 to a 1;net m from a 2 to a 3 safe 1;");
        due("told", x.told(2, 0), 7);
        due("least", x.least(), -1);
        due("m stuck at 1", x.apart(2, 3, -1), 0);
        due("m stuck at 0", x.apart(2, 2, -1), 1);
    }

    static void p04_noActsAreKept() {
        ScanBench x = stirred();
        x.board();
        due("undo()", x.undo(), false);
        due("redo()", x.redo(), false);
        due("ACTS", x.about(6) + x.about(7), 0);
    }

    static void p04_nothingIsSeen() {
        ScanBench x = stirred();
        due("board", tell(x, ONE), 1);
        due("SEEN", x.about(8), 0);
        due("fits", x.fits(100), 4);
        due("untell(0)", x.untell(0), false);
        due("seen", x.seen(0, 0, 0, 1, true), 0);
    }

    static void p04_nothingLiesThere() {
        ScanBench x = stirred();
        due("lies(0) ahead", x.lies(0), 0);
        x.board();
        due("lies(0)", x.lies(0), -2);
        due("about(12)", x.about(12), 0);
    }

    static void p04_boxesAreEmpty() {
        ScanBench x = stirred();
        x.board();
        for (int box = 0; box < 3; box++) {
            due("back(" + box + ")", x.back(box), -1);
        }
    }

    static void p04_theTimeStays() {
        ScanBench x = stirred();
        x.board();
        due("TIME", x.about(9), 9);
        tell(x, "$");
        due("TIME", x.about(9), 9);
    }

    static void p04_theTapeIsEmptyThen() {
        ScanBench x = new ScanBench();
        due("board", tell(x, ONE), 1);
        due("about(10)", x.about(10), 0);
        due("end(1)", x.end(1), -1);
        due("a wrong board", tell(x, ONE + "$"), -1);
        due("about(10)", x.about(10), 0);
        due("end(1)", x.end(1), -1);
    }

    static void p04_atAFaultAllElseStays() {
        ScanBench x = stirred();
        put(x, "device b ir 3 id 9 cells 1;noise 50;draw 77;net m from b 0 to b %");
        int[] was = all(x);
        due("board", x.board(), -1);
        due("about(10)", was[10], 65);
        was[10] = 0;
        was[14] = 2;
        was[15] = 64;
        same("a board with a fault", x, was);
        due("redo()", x.redo(), true);
        due("undo()", x.undo(), true);
        due("undo()", x.undo(), true);
        due("untell(0)", x.untell(0), true);
        for (int box = 0; box < 3; box++) {
            due("back(" + box + ")", x.back(box), 0);
        }
    }

    static void p04_aTextOf1600Bytes() {
        ScanBench x = new ScanBench();
        String text = " ".repeat(1600 - ONE.length()) + ONE;
        due("board", tell(x, text), 1);
        due("NETS", x.about(1), 1);
        due("cut by one", tell(x, text.substring(0, 1599)), -1);
        due("fault(0)", x.fault(0), 2);
        due("fault(1)", x.fault(1), 1599);
    }

    // ---- 5

    static void p05_withoutAFault() {
        ScanBench x = told(ONE);
        due("fault(0)", x.fault(0), 0);
        due("fault(1)", x.fault(1), -1);
    }

    static void p05_anotherWhat() {
        ScanBench x = told(ONE);
        for (int round = 0; round < 2; round++) {
            for (int what : new int[] {-1, 2, Integer.MIN_VALUE, Integer.MAX_VALUE}) {
                due("fault(" + what + ")", x.fault(what), -1);
            }
            tell(x, "$");
            due("fault(0)", x.fault(0), 1);
            due("fault(1)", x.fault(1), 0);
        }
    }

    static void p05_ofTheLatestBoard() {
        ScanBench x = new ScanBench();
        tell(x, "device a ir 1");
        due("fault(0)", x.fault(0), 4);
        due("fault(1)", x.fault(1), 12);
        put(x, "$");
        due("fault(0), nothing being taken yet", x.fault(0), 4);
        x.board();
        due("fault(0)", x.fault(0), 1);
        due("fault(1)", x.fault(1), 0);
        x.board();
        due("fault(0) of an empty text", x.fault(0), 0);
        due("fault(1) of an empty text", x.fault(1), -1);
    }

    static void p05_anEmptyText() {
        fine("");
        fine(" ");
        fine("\n");
        fine(" \n\n  ");
    }

    // ---- 5, tokens

    /** Each byte alone: blanks are no text, what is of a token can't begin a line, all else is no token. */
    static void p05_everyByte() {
        for (int b = 0; b < 256; b++) {
            char c = (char) b;
            if (c == ' ' || c == '\n') {
                fine("" + c);
            } else {
                boolean token = c >= 'a' && c <= 'z' || c >= '0' && c <= '9' || ";()<>=+-*/%".indexOf(c) >= 0;
                fault("" + c, token ? 2 : 1, 0);
            }
        }
    }

    static void p05_wordsOf8Letters() {
        fine("device abcdefgh ir 2 cells 0;");
        fine("device z ir 2 cells 0;");
        faultAt(2, "^devicede a");
    }

    static void p05_wordsOf9Letters() {
        faultAt(1, "device ^abcdefghi ir 2 cells 0;");
        faultAt(1, "^devicedev a");
        faultAt(1, "floats ^aaaaaaaaa");
        // a word of 13 letters, of which 5 bits each are more than a long has
        faultAt(1, "floats ^aaaaaaaclock;");
    }

    static void p05_namesDifferByAnyLetter() {
        fine("device abcdefgh ir 2 cells 0;device abcdefgi ir 2 cells 0;device bbcdefgh ir 2 cells 0;device abcdefg ir 2 cells 0;");
        fine("device a ir 2 cells 0;device aa ir 2 cells 0;device aaa ir 2 cells 0;");
        faultAt(3, "device abcdefgh ir 2 cells 0;device ^abcdefgh ir 2 cells 0;");
    }

    static void p05_numbersOf4Digits() {
        fine("draw 0007;");
        fine("floats 9999;");
        fine("device a ir 0002 id 0127 cells 0006;");
        faultAt(4, "draw ^9999;");
        due("SEED", told("draw 0999;").about(5), 999);
    }

    static void p05_numbersOf5Digits() {
        faultAt(1, "draw ^00007;");
        faultAt(1, "floats ^10000;");
        faultAt(1, "draw ^99999999999999999999;");
        faultAt(1, "floats 1+^00000+1;");
    }

    static void p05_noLetterDirectlyBehindANumber() {
        faultAt(1, "draw ^7a;");
        faultAt(1, "draw ^7z;");
        faultAt(1, "draw ^1234a;");
        faultAt(1, "device a ir ^2cells 3;");
        faultAt(1, "floats ^7and 1;");
        fine("floats 7 and 1;");
        fine("floats 7+cell;");
        fine("device a ir 2\ncells 3;");
    }

    static void p05_blanksPartThemOrNot() {
        fine("device\na  ir 2 \n cells3;net n from a0 to a1 a2\nsafe1;\n");
        fine("floats(1)or(cell)and(2)<3;");
        fine("floats ( 1 ) or ( cell ) and ( 2 ) < 3 ;");
        faultAt(1, "device a^\tir 2 cells 3;");
        faultAt(1, "device a ir 2 cells 3;^\r\n");
    }

    static void p05_eachAsLongAsCanBe() {
        faultAt(2, "^devicea ir 2 cells 3;");
        faultAt(2, "device a ^irtwo");
        faultAt(2, "floats ^notcell;");
        faultAt(2, "draw 1 ^2;");
        faultAt(4, "noise ^999;");
        due("12 is one number", told("draw 12;").about(5), 12);
    }

    // ---- 5, names

    static void p05_wordsThatStandForThemselvesAreNoNames() {
        for (String key : KEYS) {
            faultAt(2, "device ^" + key + " ir 2 cells 3;");
            faultAt(2, "device a ir 2 cells 3;net ^" + key + " from a 0 to a 1;");
            faultAt(2, ONE + "net m from ^" + key + " 2 to a 3;");
            faultAt(2, ONE + "net m from a 2 to ^" + key + " 3;");
            faultAt(2, ONE + "short ^" + key + " n low;");
            faultAt(2, ONE + "short n ^" + key + " low;");
            faultAt(2, ONE + "open ^" + key + " 1;");
            faultAt(2, ONE + "stuck ^" + key + " 1;");
        }
    }

    static void p05_otherWordsAreNames() {
        for (String name : new String[] {"line", "e", "both", "one", "sum", "term", "unit", "board", "devices", "evice", "i",
            "irr", "nets", "n", "nett", "lo", "test"}) {
            fine("device " + name + " ir 2 cells 3;net " + name + " from " + name + " 0 to " + name + " 1;open " + name + " 1;stuck "
                + name + " 1;");
        }
    }

    static void p05_signsAndNumbersAreNoNames() {
        faultAt(2, "device ^7");
        faultAt(2, "device ^;");
        faultAt(2, ONE + "net ^(");
        faultAt(2, ONE + "stuck ^0 1;");
    }

    // ---- 5, devices

    static void p05_fourDevices() {
        fine(FOUR);
    }

    static void p05_aFifthDevice() {
        faultAt(2, FOUR + "^device e ir 2 cells 0;");
        faultAt(2, FOUR + "^device a ir 9 cells 7;");
        faultAt(2, FOUR + "^device");
    }

    static void p05_numberedAsToldEachSortByItself() {
        ScanBench x = told("device z ir 4 cells 1;device a ir 3 cells 3;net z from a 0 to a 1;device m ir 2 cells 2;"
            + "net a from m 0 to m 1;");
        due("DEVICE 0", x.device(0, 0), 4);
        due("DEVICE 1", x.device(1, 0), 3);
        due("DEVICE 2", x.device(2, 0), 2);
        due("NET 0", x.cell(1, 0, 0), 0);
        due("NET 1", x.cell(2, 0, 0), 1);
    }

    static void p05_aNameOfItsSortToldAlready() {
        faultAt(3, THREE + "device ^b ir 2 cells 1;");
        faultAt(3, THREE + "device ^a ir 2 cells 1;");
        faultAt(3, THREE + "net ^c from");
        fine(THREE + "device c ir 2 cells 1;");
    }

    static void p05_irFrom2To4() {
        faultAt(4, "device a ir ^0 cells 6;");
        faultAt(4, "device a ir ^1 cells 6;");
        for (int ir = 2; ir <= 4; ir++) {
            due("ir", told("device a ir " + ir + " cells 6;").device(0, 0), ir);
        }
        faultAt(4, "device a ir ^5 cells 6;");
        faultAt(4, "device a ir ^9999 cells 6;");
    }

    static void p05_idFrom0To127() {
        due("id", told("device a ir 2 id 0 cells 6;").device(0, 1), 0);
        due("id", told("device a ir 2 id 127 cells 6;").device(0, 1), 127);
        due("id", told("device a ir 2 cells 6;").device(0, 1), -1);
        faultAt(4, "device a ir 2 id ^128 cells 6;");
        faultAt(4, "device a ir 2 id ^9999 cells 6;");
        faultAt(2, "device a ir 2 id ^cells 6;");
        faultAt(2, "device a ir 2 cells 6 ^id 1;");
        faultAt(2, "device a ir 2 id 1 ^id 1 cells 6;");
    }

    static void p05_cellsFrom0To6() {
        for (int cells = 0; cells <= 6; cells++) {
            due("cells", told("device a ir 2 cells " + cells + ";").device(0, 2), cells);
        }
        faultAt(4, "device a ir 2 cells ^7;");
        faultAt(4, "device a ir 2 cells ^9999;");
    }

    // ---- 5, nets

    static void p05_sixNets() {
        fine(FOUR + SIX);
    }

    static void p05_aSeventhNet() {
        faultAt(2, FOUR + SIX + "^net g from c 0 to c 1;");
        faultAt(2, FOUR + SIX + "^net a from z 9;");
        faultAt(2, FOUR + SIX + "^net");
    }

    static void p05_aCellOfADeviceToldAhead() {
        faultAt(5, "net m from ^a 0 to a 1;device a ir 2 cells 4;");
        faultAt(5, ONE + "net m from a 2 to ^b 0;device b ir 2 cells 4;");
        faultAt(5, ONE + "net m from ^n 2 to a 3;");
        faultAt(5, ONE + "net m from a 2 and ^m 3");
    }

    static void p05_aCellsNumberBelowCells() {
        for (int cells = 2; cells <= 6; cells++) {
            String device = "device a ir 2 cells " + cells + ";net n from a ";
            fine(device + (cells - 1) + " to a 0;");
            fine(device + "0 to a " + (cells - 1) + ";");
            faultAt(4, device + "^" + cells + " to a 0;");
            faultAt(4, device + "0 and a ^" + cells + " to a 1;");
            faultAt(4, device + "0 to a ^" + cells + ";");
            faultAt(4, device + "0 to a 1;open a ^" + cells + ";");
        }
        faultAt(4, "device a ir 2 cells 0;net n from a ^0 to");
    }

    static void p05_aCellOfOneNetOnce() {
        faultAt(3, THREE + "net d from a ^2 to a 3;");
        faultAt(3, THREE + "net d from b ^3 to a 3;");
        faultAt(3, THREE + "net d from a 3 to a ^0;");
        faultAt(3, THREE + "net d from a 3 to b ^2;");
        faultAt(3, THREE + "net d from a 3 and a ^3 to a 4;");
        faultAt(3, THREE + "net d from a 3 to a ^3;");
        faultAt(3, THREE + "net d from a 3 and a 4 to a ^4;");
        faultAt(3, THREE + "net d from a 3 to b 4 b ^4;");
        faultAt(3, THREE + "net d from a 3 to b 4 b 5 b ^4;");
        fine(THREE + "net d from a 3 and a 4 to a 5 b 4 b 5;");
    }

    static void p05_oneOrTwoDrivers() {
        faultAt(2, FOUR + "net a from ^to a 1;");
        due("DRIVERS", told(FOUR + "net a from a 0 to a 1;").net(0, 0), 1);
        due("DRIVERS", told(FOUR + "net a from a 0 and b 0 to a 1;").net(0, 0), 2);
        faultAt(2, FOUR + "net a from a 0 ^b 0 to a 1;");
        faultAt(2, FOUR + "net a from a 0 and b 0 ^and a 2 to a 3;");
        faultAt(2, FOUR + "net a from a 0 and ^to a 3;");
    }

    static void p05_oneToThreeReceivers() {
        faultAt(2, FOUR + "net a from a 0 to ^;");
        faultAt(2, FOUR + "net a from a 0 to ^safe 1;");
        due("RECEIVERS", told(FOUR + "net a from a 0 to a 1;").net(0, 1), 1);
        due("RECEIVERS", told(FOUR + "net a from a 0 to a 1 b 5;").net(0, 1), 2);
        due("RECEIVERS", told(FOUR + "net a from a 0 to a 1 b 5 c 1;").net(0, 1), 3);
        faultAt(2, FOUR + "net a from a 0 to a 1 ^and a 2;");
    }

    static void p05_aFourthReceiver() {
        faultAt(2, FOUR + "net a from a 0 to a 1 b 5 c 1 ^b 1;");
        faultAt(2, FOUR + "net a from a 0 to a 1 b 5 c 1 ^z 1;");
        faultAt(2, FOUR + "net a from a 0 to a 1 b 5 c 1 ^a 1;");
        faultAt(2, FOUR + "net a from a 0 to a 1 b 5 c 1 ^d");
    }

    static void p05_safe0Or1() {
        due("safe", told("device a ir 2 cells 4;net n from a 0 to a 1 safe 0;").net(0, 2), 0);
        due("safe", told("device a ir 2 cells 4;net n from a 0 to a 1 safe 1;").net(0, 2), 1);
        due("safe", told("device a ir 2 cells 4;net n from a 0 to a 1;").net(0, 2), -1);
        faultAt(4, "device a ir 2 cells 4;net n from a 0 to a 1 safe ^2;");
        faultAt(2, "device a ir 2 cells 4;net n from a 0 to a 1 safe 1 ^safe 1;");
        faultAt(2, "device a ir 2 cells 4;net n from a 0 to a 1 safe ^;");
    }

    // ---- 5, shorts, opens, what is stuck

    static void p05_shortOfTwoUnlikeNets() {
        faultAt(3, THREE + "short a ^a low;");
        faultAt(3, THREE + "short c ^c high;");
        fine(THREE + "short a b low;");
    }

    static void p05_shortOfNetsToldAhead() {
        faultAt(5, THREE + "short ^d a low;net d from a 3 to a 4;");
        faultAt(5, THREE + "short a ^d low;net d from a 3 to a 4;");
        faultAt(5, "device z ir 2 cells 4;net n from z 0 to z 1;short n ^z low;");
    }

    static void p05_eachTwoShortOnceInWhateverOrder() {
        faultAt(3, THREE + "short a b low;short a ^b low;");
        faultAt(3, THREE + "short a b low;short a ^b high;");
        faultAt(3, THREE + "short a b low;short b ^a low;");
        faultAt(3, THREE + "short c b high;short b ^c low;");
        faultAt(3, THREE + "short c b high;short c ^b high;");
        fine(THREE + "short a b low;short c a high;short c b low;");
        StringBuilder all = new StringBuilder(FOUR + SIX);
        for (int i = 0; i < 15; i++) {
            String two = "abacadaeafbcbdbebfcdcecfdedfef".substring(2 * i, 2 * i + 2);
            all.append("short ").append(two.charAt(1)).append(" ").append(two.charAt(0)).append(" high;");
            faultAt(3, all + "short " + two.charAt(0) + " ^" + two.charAt(1) + " low;");
        }
        due("faults", told(all.toString()).about(2), 15);
    }

    static void p05_shortLowOrHigh() {
        due("low", told(THREE + "short a b low;").single(6 + 4, 3), 1);
        due("high", told(THREE + "short a b high;").single(6 + 4 + 1, 3), 1);
        faultAt(2, THREE + "short a b ^;");
        faultAt(2, THREE + "short a b ^1;");
        faultAt(2, THREE + "short a ^low;");
        faultAt(2, THREE + "short a b ^c low;");
    }

    static void p05_openOfAReceiver() {
        due("open", told(THREE + "open b 2;").cell(1, 2, 2), 1);
        // a DRIVER, one of no NET, one of a NET told behind
        faultAt(5, THREE + "open a ^0;");
        faultAt(5, THREE + "open a ^5;");
        faultAt(5, THREE + "open a ^4;net d from a 3 to a 4;");
        faultAt(5, THREE + "open ^c 2;");
    }

    static void p05_openOnce() {
        faultAt(3, THREE + "open b 1;open b ^1;");
        faultAt(3, THREE + "open b 1;open b 2;open b ^1;");
        due("faults", told(THREE + "open b 1;open b 2;open b 0;open b 3;").about(2), 4);
    }

    static void p05_stuckOfANetToldAhead() {
        faultAt(5, THREE + "stuck ^d 1;net d from a 3 to a 4;");
        faultAt(5, "device z ir 2 cells 4;net n from z 0 to z 1;stuck ^z 1;");
    }

    static void p05_stuckOnce() {
        faultAt(3, THREE + "stuck a 1;stuck ^a 1;");
        faultAt(3, THREE + "stuck a 1;stuck ^a 0;");
        faultAt(3, THREE + "stuck a 0;stuck b 0;stuck ^a 9;");
        for (char net = 'a'; net <= 'f'; net++) {
            faultAt(3, FOUR + SIX + "stuck " + net + " 1;stuck ^" + net + " 1;");
            faultAt(3, FOUR + SIX + "stuck " + net + " 0;stuck ^" + net + " 0;");
        }
        due("faults", told(THREE + "stuck a 1;stuck b 0;stuck c 1;").about(2), 3);
    }

    static void p05_stuckAt0Or1() {
        due("stuck", told(THREE + "stuck b 0;").net(1, 3), 0);
        due("stuck", told(THREE + "stuck b 1;").net(1, 3), 1);
        faultAt(4, THREE + "stuck b ^2;");
        faultAt(2, THREE + "stuck b ^low;");
        faultAt(2, THREE + "stuck b ^;");
    }

    // ---- 5, floats, noise, draw

    static void p05_floatsOnce() {
        faultAt(2, "floats 1;^floats 1;");
        faultAt(2, "floats 1;noise 1;^floats");
    }

    static void p05_noiseOnce() {
        faultAt(2, "noise 0;^noise 0;");
        faultAt(2, "noise 1;draw 1;^noise 101;");
    }

    static void p05_drawOnce() {
        faultAt(2, "draw 0;^draw 0;");
        faultAt(2, "draw 1;noise 1;floats 1;^draw x");
    }

    static void p05_noiseFrom0To100() {
        for (int noise : new int[] {0, 1, 99, 100}) {
            due("noise", told("noise " + noise + ";").about(13), noise);
        }
        due("noise, not told", told("draw 3;").about(13), 0);
        faultAt(4, "noise ^101;");
        faultAt(4, "noise ^9999;");
        faultAt(2, "noise ^-1;");
    }

    static void p05_drawFrom0To999() {
        for (int draw : new int[] {0, 1, 998, 999}) {
            due("SEED", told("draw " + draw + ";").about(5), draw);
        }
        due("SEED, not told", told("noise 3;").about(5), 0);
        faultAt(4, "draw ^1000;");
        faultAt(4, "draw ^9999;");
    }

    static void p05_30Units() {
        due("units", told("floats 1" + "+cell".repeat(29) + ";").about(11), 30);
        due("units", told("floats 1" + " or 2<3".repeat(14) + " and not 1;").about(11), 30);
        due("units", told("floats (1" + "+cell".repeat(28) + ");").about(11), 30);
        due("units", told("floats " + "(1)+".repeat(14) + "(1);").about(11), 30);
        due("units", told("floats not device < (clock - net) * ((7));").about(11), 7);
        due("units", told("floats 1;").about(11), 1);
    }

    static void p05_a31stUnit() {
        String thirty = "floats 1" + "+cell".repeat(29);
        for (String sign : new String[] {"+", "-", "*", "/", "%", "<", ">", "=", " or ", " and ", " and not not "}) {
            faultAt(2, thirty + sign + "^1;");
        }
        faultAt(2, thirty + "+^(1);");
        faultAt(2, "floats (1" + "+cell".repeat(28) + "+^1);");
        faultAt(2, "floats 1" + "+cell".repeat(28) + "+(^1);");
        faultAt(2, "floats " + "(1)+".repeat(15) + "^1;");
        faultAt(1, thirty + "+^?");
    }

    static void p05_aUnitWithin6Others() {
        fine("floats (((((((1)))))));");
        fine("floats ((1)) + ((((((1 * (2)))))));");
        faultAt(2, "floats (((((((^(1))))))));");
        faultAt(2, "floats (1)+((((((1+(2)+(3*^(4))))))));");
    }

    static void p05_oneBehindNotWithin6Others() {
        fine("floats not not not not not not not 1;");
        fine("floats not not not not not not not 1 and not not not not not not not 1 or not not not not not not not 1;");
        faultAt(2, "floats not not not not not not not ^not 1;");
        faultAt(2, "floats 1 or not not not not not not not ^not");
    }

    static void p05_bothWithinOneAnother() {
        fine("floats not (not (not (not 1)));");
        faultAt(2, "floats not (not (not (not ^(1))));");
        fine("floats (not (not (not (1))));");
        faultAt(2, "floats (not (not (not (^not 1))));");
        // what is behind a not is within it no more when it has ended
        fine("floats not not not not not not not 1 + 2 < 3 and (((((((1)))))));");
        faultAt(2, "floats not not not not not not not 1 + ^(2);");
    }

    static void p05_formulasAsTheyAreBuilt() {
        faultAt(2, "floats ^;");
        faultAt(2, "floats ^-1;");
        faultAt(2, "floats (^);");
        faultAt(2, "floats (1^;");
        faultAt(2, "floats 1^);");
        faultAt(2, "floats 1 ^2;");
        faultAt(2, "floats 1 = 2 ^= 3;");
        faultAt(2, "floats 1 < 2 ^> 3;");
        faultAt(2, "floats 1 + ^not 2;");
        faultAt(2, "floats 1 < ^not 2;");
        faultAt(2, "floats 1 or ^or 2;");
        faultAt(2, "floats 1 + ^+ 2;");
        for (String key : KEYS) {
            if (key.matches("device|cell|net|clock")) {
                fine("floats " + key + ";");
            } else if (!key.equals("not")) {
                faultAt(2, "floats ^" + key + ";");
            }
        }
        faultAt(2, "floats ^a;");
        for (String e : new String[] {"1", "not 1", "1<2", "1>2", "1=2", "1+2-3", "1*2/3%4", "(1)", "1 or 2 or 3", "1 and 2 and 3"}) {
            due("a line behind floats " + e, told("floats " + e + ";draw 77;").about(5), 77);
        }
    }

    // ---- 5, which fault it is

    static void p05_aLineBeginsByItsWord() {
        for (String key : KEYS) {
            if (!key.matches("device|net|short|open|stuck|floats|noise|draw")) {
                faultAt(2, "^" + key + " 1;");
            }
        }
        faultAt(2, "^a 1;");
        faultAt(2, "^1;");
        faultAt(2, "draw 1;^;");
    }

    static void p05_aLineEndsByItsSign() {
        for (String line : new String[] {"device z ir 2 cells 3", "net m from a 2 to a 3", "net m from a 2 to a 3 safe 1",
            "open a 1", "stuck n 1", "floats 1", "noise 1", "draw 1"}) {
            fine(ONE + line + ";");
            faultAt(2, ONE + line + " ^draw 1;");
            faultAt(2, ONE + line + "^)");
        }
        faultAt(2, THREE + "short a b low ^draw 1;");
    }

    /** A text that ends too early: the fault is at its end, blanks and all. */
    static void p05_theEndsPlaceIsTheLength() {
        String[] texts = {"device a ir 2 id 7 cells 4 ;", "net n from a 0 and a 1 to a 2 a 3 safe 1 ;", "short a b low ;", "open b 0 ;",
            "stuck a 0 ;", "floats not ( 1 < cell ) * 2 or 3 and net ;", "noise 10 ;", "draw 10 ;"};
        String[] ahead = {"", "device a ir 2 cells 4;", THREE, THREE, THREE, "", "", ""};
        for (int i = 0; i < texts.length; i++) {
            fine(ahead[i] + texts[i]);
            for (int at = texts[i].indexOf(' '); at > 0; at = texts[i].indexOf(' ', at + 1)) {
                String begun = ahead[i] + texts[i].substring(0, at);
                faultAt(2, begun + "^");
                faultAt(2, begun + " \n ^");
            }
        }
    }

    static void p05_theFirstByItsPlace() {
        faultAt(4, "device a ir ^9 cells 9;$");
        faultAt(3, ONE + "device ^a ir 1 cells 9 $");
        faultAt(5, ONE + "stuck ^m 2;$");
        faultAt(2, ONE + "stuck n 1 ^1;stuck n 1;$");
        faultAt(1, ONE + "^$ stuck n 2;");
        faultAt(3, ONE + "short n ^n $");
        for (String e : new String[] {"", "1 or ", "1 and ", "not ", "1 < ", "1 + ", "1 * ", "(", "not (1 or "}) {
            faultAt(2, "floats " + e + "^;$");
        }
    }

    static void p05_atOnePlaceTheLeast() {
        // no TOKEN where another one must be, where one has to be new, where it is one too many
        faultAt(1, "draw ^$");
        faultAt(1, "device ^abcdefghi");
        faultAt(1, ONE + "net m from a ^00000 to");
        faultAt(1, "device a ir 2 cells 6;net a from a 0 to a 1 a 2 a 3 ^aaaaaaaaa 4;");
        faultAt(1, "floats 1" + "+1".repeat(29) + "+^12345;");
        // one that can't stand there ahead of what is told already and what is not known
        faultAt(2, "device a ir 2 cells 6;net a from a 0 to a 1 a 2 a 3 ^z 9;");
        faultAt(2, FOUR + "^device a ir 2 cells 0;");
        // a number that can't be ahead of a cell that is no RECEIVER, told already ahead of that
        faultAt(4, ONE + "open a ^9;");
        faultAt(3, ONE + "open a 1;open a ^1;");
    }

    public static void main(String[] args) throws Exception {
        run(TapeTest.class);
    }
}
