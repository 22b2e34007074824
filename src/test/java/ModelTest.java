import java.util.ArrayList;
import java.util.List;
import java.util.Random;

/** Random boards, whole and broken, and random calls: the program has to answer as the model does. */
public final class ModelTest {
    private static Random random;
    private static ScanBench x;
    private static Model m;
    private static final List<String> calls = new ArrayList<>();
    private static int toldShown = 0;

    private static int below(int n) {
        return random.nextInt(n);
    }

    private static boolean often(int percent) {
        return below(100) < percent;
    }

    // ---- texts

    private static String formula(int depth) {
        StringBuilder s = new StringBuilder(one(depth));
        while (often(25)) {
            s.append(often(50) ? " or " : " and ").append(one(depth));
        }
        return s.toString();
    }

    private static String one(int depth) {
        if (often(15)) {
            return "not " + one(depth + 1);
        }
        StringBuilder s = new StringBuilder(unit(depth));
        while (often(50)) {
            s.append("+-*/%".charAt(below(5))).append(unit(depth));
        }
        if (often(30)) {
            s.append("<>=".charAt(below(3))).append(unit(depth)).append(often(30) ? "-" + unit(depth) : "");
        }
        return s.toString();
    }

    private static String unit(int depth) {
        if (depth < 5 && often(15)) {
            return "(" + formula(depth + 1) + ")";
        }
        return often(60) ? new String[] {"device", "cell", "net", "clock"}[below(4)]
            : "" + (often(70) ? below(6) : often(50) ? below(100) : below(10000));
    }

    private static String text() {
        StringBuilder s = new StringBuilder();
        int devices = often(5) ? 0 : 1 + below(4);
        List<String> free = new ArrayList<>();
        for (int d = 0; d < devices; d++) {
            int cells = often(10) ? 0 : often(30) ? 6 : below(7);
            s.append("device ").append("abcd".charAt(d)).append(" ir ").append(2 + below(3));
            s.append(often(50) ? " id " + below(128) : "").append(" cells ").append(cells).append(";");
            for (int c = 0; c < cells; c++) {
                free.add("abcd".charAt(d) + " " + c);
            }
        }
        int nets = 0;
        List<String> receivers = new ArrayList<>();
        for (int n = below(7); n > 0 && free.size() >= 2; n--) {
            s.append("net ").append("abcdef".charAt(nets)).append(" from ").append(free.remove(below(free.size())));
            s.append(free.size() > 1 && often(35) ? " and " + free.remove(below(free.size())) : "").append(" to");
            for (int r = often(60) ? 1 : 1 + below(3); r > 0 && !free.isEmpty(); r--) {
                receivers.add(free.remove(below(free.size())));
                s.append(" ").append(receivers.get(receivers.size() - 1));
            }
            s.append(often(25) ? " safe " + below(2) : "").append(";");
            nets++;
        }
        faults(s, nets, receivers);
        s.append(often(70) ? "floats " + formula(0) + ";" : "");
        s.append(often(50) ? "noise " + below(101) + ";" : "").append(often(50) ? "draw " + below(1000) + ";" : "");
        return s.toString();
    }

    private static void faults(StringBuilder s, int nets, List<String> receivers) {
        int many = often(30) ? 60 : 15;
        for (int a = 0; a < nets; a++) {
            s.append(often(many) ? "stuck " + "abcdef".charAt(a) + " " + below(2) + ";" : "");
            for (int b = a + 1; b < nets; b++) {
                boolean turned = often(50);
                s.append(often(many / 3) ? "short " + "abcdef".charAt(turned ? b : a) + " " + "abcdef".charAt(turned ? a : b)
                    + (often(50) ? " low;" : " high;") : "");
            }
        }
        for (String r : receivers) {
            s.append(often(many) ? "open " + r + ";" : "");
        }
    }

    /** Something in it is put, taken, turned to something else. */
    private static String broken(String text) {
        StringBuilder s = new StringBuilder(text);
        String[] bits = {" ", ";", "a", "z", "7", "12345", "abcdefghi", "net ", "device ", "(", "not ", "\n", "<", "\u00ff", "0",
            "$", "safe 1", "open a 0;", "stuck a 1;", "short a b low;", "noise 5;", "draw 7;", "floats 1;", "and ", "or ",
            "device x ir 2 cells 1;", "+1", ")", "((((((((", "not not not not not not not not ", "2x", "floats ", "floats"};
        for (int i = 1 + below(2); i > 0; i--) {
            int at = below(s.length() + 1);
            if (often(40)) {
                int semicolon = s.indexOf(";", at);
                at = semicolon < 0 ? at : semicolon + below(2);
            }
            if (often(60)) {
                s.insert(at, bits[below(bits.length)]);
            } else {
                s.delete(at, Math.min(s.length(), at + 1 + below(4)));
            }
        }
        return s.toString();
    }

    private static void tell() {
        String text = text();
        if (often(30)) {
            text = broken(text);
        }
        if (text.length() > 1600) {
            text = text.substring(0, 1600);
        }
        calls.add("tell " + text);
        same("end(0)", x.end(0), m.end(0));
        for (int i = 0; i < text.length(); i += 20) {
            int[] five = new int[5];
            for (int j = 0; j < 20; j++) {
                five[j / 4] = five[j / 4] << 8 | (i + j < text.length() ? text.charAt(i + j) & 255 : 0);
            }
            same("feed", x.feed(five[0], five[1], five[2], five[3], five[4]), m.feed(five));
        }
        same("end", x.end(text.length()), m.end(text.length()));
        same("board", x.board(), m.board());
        same("fault(0)", x.fault(0), m.fault(0));
        same("fault(1)", x.fault(1), m.fault(1));
    }

    // ---- calls

    private static void same(String call, long got, long want) {
        calls.add(call);
        Check.due(call, got, want);
        if (got != want && toldShown < 3) {
            toldShown++;
            System.out.println("behind " + String.join("\n  ", calls));
        }
    }

    /** Mostly one that can be. */
    private static int pick(int most) {
        return often(4) ? new int[] {-1, -2, most + 1, Integer.MAX_VALUE, Integer.MIN_VALUE}[below(5)] : below(most + 1);
    }

    private static int time() {
        return often(50) ? m.time : often(80) ? below(m.time + 2) - 1 : random.nextInt();
    }

    private static void act() {
        int a = pick(1);
        int b = pick(1);
        switch (below(9)) {
            case 0: same("clock(" + a + "," + b + ")", x.clock(a, b), m.clock(a, b)); break;
            case 1: case 2: case 3: {
                int bits = often(40) ? 0 : often(50) ? random.nextInt() : below(64);
                int n = often(60) ? Math.max(1, m.length(a == 1 ? 1 : 0)) : often(90) ? 1 + below(30) : pick(31);
                n = often(97) && n > 30 ? 30 : n;
                same("scan(" + a + "," + bits + "," + n + ")", x.scan(a, bits, n), m.scan(a, bits, n));
                break;
            }
            case 4: case 5: {
                int single = pick(Math.max(0, m.singles() - 1));
                same("harm(" + single + ")", x.harm(single), m.harm(single));
                break;
            }
            case 6: same("undo()", x.undo() ? 1 : 0, m.undo() ? 1 : 0); break;
            case 7: same("redo()", x.redo() ? 1 : 0, m.redo() ? 1 : 0); break;
            default:
                a = pick(2);
                if (often(50)) {
                    same("image(" + a + ")", x.image(a), m.image(a));
                } else {
                    same("back(" + a + ")", x.back(a), m.back(a));
                }
        }
    }

    private static void look() {
        int d = pick(Math.max(0, m.text.devices.size() - 1));
        int c = pick(5);
        int n = pick(Math.max(0, m.text.nets.size() - 1));
        int w = pick(7);
        int from = pick(15);
        int to = pick(15);
        switch (below(11)) {
            case 0: same("device(" + d + "," + w + ")", x.device(d, w), m.device(d, w)); break;
            case 1: same("net(" + n + "," + w + ")", x.net(n, w), m.net(n, w)); break;
            case 2: w = pick(3); same("cell(" + d + "," + c + "," + w + ")", x.cell(d, c, w), m.cell(d, c, w)); break;
            case 3: w = random.nextInt(); c = pick(30); same("goes(" + w + "," + c + ")", x.goes(w, c), m.goes(w, c)); break;
            case 4: same("walk(" + from + "," + to + ")", x.walk(from, to), m.walk(from, to)); break;
            case 5: same("walks(" + from + "," + to + ")", x.walks(from, to), m.walks(from, to)); break;
            case 6: same("farthest(" + from + ")", x.farthest(from), m.farthest(from)); break;
            case 7: w = pick(1); same("length(" + w + ")", x.length(w), m.length(w)); break;
            case 8: same("found(" + d + ")", x.found(d), m.found(d)); break;
            case 9: same("fights()", x.fights(), m.fights()); same("unsafe()", x.unsafe(), m.unsafe()); break;
            default: same("lies(" + w + ")", x.lies(w), m.lies(w));
        }
    }

    private static void judge() {
        int kind = pick(2);
        int n = pick(Math.max(0, m.text.nets.size() - 1));
        int d = pick(Math.max(0, m.text.devices.size() - 1));
        int c = pick(5);
        int w = pick(1);
        int one = pick(Math.max(0, m.singles() - 1));
        int two = often(20) ? -1 : pick(Math.max(0, m.singles() - 1));
        switch (below(18)) {
            case 0: same("steps(" + kind + ")", x.steps(kind), m.steps(kind)); break;
            case 1: same("tells(" + kind + "," + n + ")", x.tells(kind, n), m.tells(kind, n)); break;
            case 2: same("answer(" + kind + "," + d + "," + c + ")", x.answer(kind, d, c), m.answer(kind, d, c)); break;
            case 3: same("good(" + kind + ")", x.good(kind), m.good(kind)); break;
            case 4: same("aliased(" + kind + ")", x.aliased(kind), m.aliased(kind)); break;
            case 5: same("confounded(" + kind + "," + n + ")", x.confounded(kind, n), m.confounded(kind, n)); break;
            case 6: same("verdict(" + kind + "," + n + ")", x.verdict(kind, n), m.verdict(kind, n)); break;
            case 7: same("singles()", x.singles(), m.singles()); break;
            case 8: c = pick(3); same("single(" + one + "," + c + ")", x.single(one, c), m.single(one, c)); break;
            case 9: same("apart(" + kind + "," + one + "," + two + ")", x.apart(kind, one, two), m.apart(kind, one, two)); break;
            case 10: same("told(" + kind + "," + w + ")", x.told(kind, w), m.told(kind, w)); break;
            case 11: same("least()", x.least(), m.least()); break;
            case 12: same("mendFirst(" + w + ")", x.mendFirst(w), m.mendFirst(w)); break;
            case 13: same("safest(" + w + ")", x.safest(w), m.safest(w)); break;
            case 14: same("cost(" + kind + ")", x.cost(kind), m.cost(kind)); break;
            case 15: same("worst()", x.worst(), m.worst()); break;
            case 16: same("law(" + w + ")", x.law(w), m.law(w)); break;
            default: n = pick(4); same("odds(" + n + "," + w + ")", x.odds(n, w), m.odds(n, w));
        }
    }

    private static void see() {
        int k = time();
        int kind = pick(2);
        int w = pick(1);
        int i = pick(20);
        switch (below(8)) {
            case 0: case 1: {
                int step = pick(Math.max(0, m.steps(Math.max(0, Math.min(kind, 2))) - 1));
                int d = pick(Math.max(0, m.text.devices.size() - 1));
                int c = pick(5);
                boolean is = often(50);
                String call = "seen(" + kind + "," + step + "," + d + "," + c + "," + is + ")";
                same(call, x.seen(kind, step, d, c, is), m.seen(kind, step, d, c, is));
                break;
            }
            case 2: i = pick(4); same("untell(" + i + ")", x.untell(i) ? 1 : 0, m.untell(i) ? 1 : 0); break;
            case 3: i = often(90) ? below(3) : pick(1000); same("later(" + i + ")", x.later(i), m.later(i)); break;
            case 4: case 5: same("fits(" + k + ")", x.fits(k), m.fits(k)); break;
            case 6: same("culprit(" + i + "," + k + ")", x.culprit(i, k), m.culprit(i, k)); break;
            default: same("ask(" + kind + "," + w + "," + k + ")", x.ask(kind, w, k), m.ask(kind, w, k));
        }
    }

    private static void all() {
        for (int what = -1; what <= 14; what++) {
            same("about(" + what + ")", x.about(what), m.about(what));
        }
        for (int d = 0; d < m.text.devices.size(); d++) {
            for (int what = 0; what < 8; what++) {
                same("device(" + d + "," + what + ")", x.device(d, what), m.device(d, what));
            }
            for (int c = 0; c < 6; c++) {
                same("cell(" + d + "," + c + ",3)", x.cell(d, c, 3), m.cell(d, c, 3));
            }
        }
    }

    private static void run(int seed) {
        random = new Random(seed);
        x = new ScanBench();
        m = new Model();
        calls.clear();
        calls.add("seed " + seed);
        all();
        for (int i = 0; i < 240; i++) {
            int sort = i % 60 == 0 ? 0 : 1 + below(99);
            if (sort == 0) {
                tell();
            } else if (sort < 30) {
                act();
            } else if (sort < 50) {
                look();
            } else if (sort < 80) {
                judge();
            } else if (sort < 98) {
                see();
            } else {
                all();
            }
        }
        all();
    }

    public static void main(String[] args) {
        int runs = args.length > 0 ? Integer.parseInt(args[0]) : 300;
        int first = args.length > 1 ? Integer.parseInt(args[1]) : 0;
        for (int seed = first; seed < first + runs; seed++) {
            run(seed);
        }
        Check.finish("ModelTest");
    }
}
