import java.math.BigInteger;
import java.util.ArrayDeque;
import java.util.ArrayList;
import java.util.Arrays;
import java.util.HashMap;
import java.util.HashSet;
import java.util.LinkedHashMap;
import java.util.List;
import java.util.Map;
import java.util.Set;
import java.util.TreeSet;

/**
 * The document told once more, as plainly as can be, with objects, lists and texts where the program has bits and rows:
 * ModelTest asks both the same and compares.
 */
final class Model {
    // ---- what a text tells

    static final class Device {
        String name;
        int ir;
        int id = -1;
        int cells;
    }

    static final class Net {
        String name;
        final List<Cell> drivers = new ArrayList<>();
        final List<Cell> receivers = new ArrayList<>();
        int safe = -1;
    }

    record Cell(int device, int cell) {
    }

    interface Expression {
        int at(int device, int cell, int net, int clock);
    }

    static final class Text {
        final List<Device> devices = new ArrayList<>();
        final List<Net> nets = new ArrayList<>();
        final Set<String> faults = new TreeSet<>();
        Expression floats = (d, c, n, k) -> 0;
        int noise = 0;
        int draw = 0;
        int units = 0;
    }

    static final class Fault extends RuntimeException {
        private static final long serialVersionUID = 1;
        final int fault;
        final int place;

        Fault(int fault, int place) {
            this.fault = fault;
            this.place = place;
        }
    }

    static final class Parser {
        private static final Set<String> KEYS = Set.of("device", "ir", "id", "cells", "net", "from", "and", "to", "safe",
            "short", "low", "high", "open", "stuck", "floats", "noise", "draw", "or", "not", "cell", "clock");
        final List<String> tokens = new ArrayList<>();
        final List<Integer> places = new ArrayList<>();
        final Text text = new Text();
        final Set<String> once = new HashSet<>();
        int at = 0;

        Parser(String s) {
            int i = 0;
            while (i < s.length()) {
                int j = i;
                if (s.charAt(i) == ' ' || s.charAt(i) == '\n') {
                    i++;
                    continue;
                }
                while (j < s.length() && s.charAt(j) >= 'a' && s.charAt(j) <= 'z') {
                    j++;
                }
                boolean word = j > i;
                while (!word && j < s.length() && s.charAt(j) >= '0' && s.charAt(j) <= '9') {
                    j++;
                }
                boolean number = !word && j > i;
                if (j == i) {
                    j++;
                }
                String token = s.substring(i, j);
                boolean bad = word ? token.length() > 8
                    : number ? token.length() > 4 || j < s.length() && s.charAt(j) >= 'a' && s.charAt(j) <= 'z'
                    : ";()<>=+-*/%".indexOf(token) < 0;
                tokens.add(bad ? "?" : token);
                places.add(i);
                i = j;
            }
            tokens.add("");
            places.add(s.length());
        }

        String now() {
            return tokens.get(at);
        }

        Fault fault(int fault) {
            return new Fault(now().equals("?") ? 1 : fault, places.get(at));
        }

        boolean isName() {
            return now().matches("[a-z]+") && !KEYS.contains(now());
        }

        boolean skip(String token) {
            if (now().equals(token)) {
                at++;
                return true;
            }
            return false;
        }

        void must(String token) {
            if (!skip(token)) {
                throw fault(2);
            }
        }

        int number(int from, int to) {
            if (!now().matches("[0-9]+")) {
                throw fault(2);
            }
            int n = Integer.parseInt(now());
            if (n < from || n > to) {
                throw fault(4);
            }
            return n;
        }

        int numberTaken(int from, int to) {
            int n = number(from, to);
            at++;
            return n;
        }

        Text board() {
            while (!now().isEmpty()) {
                line();
                must(";");
            }
            return text;
        }

        void line() {
            String first = now();
            switch (first) {
                case "device": device(); break;
                case "net": net(); break;
                case "short": shorted(); break;
                case "open": open(); break;
                case "stuck": stuck(); break;
                case "floats": case "noise": case "draw":
                    if (!once.add(first)) {
                        throw fault(2);
                    }
                    at++;
                    if (first.equals("floats")) {
                        text.floats = either(0);
                    } else if (first.equals("noise")) {
                        text.noise = numberTaken(0, 100);
                    } else {
                        text.draw = numberTaken(0, 999);
                    }
                    break;
                default: throw fault(2);
            }
        }

        void device() {
            if (text.devices.size() == 4) {
                throw fault(2);
            }
            at++;
            if (!isName()) {
                throw fault(2);
            }
            for (Device other : text.devices) {
                if (other.name.equals(now())) {
                    throw fault(3);
                }
            }
            Device d = new Device();
            d.name = now();
            at++;
            must("ir");
            d.ir = numberTaken(2, 4);
            if (skip("id")) {
                d.id = numberTaken(0, 127);
            }
            must("cells");
            d.cells = numberTaken(0, 6);
            text.devices.add(d);
        }

        Cell cell() {
            if (!isName()) {
                throw fault(2);
            }
            int d = 0;
            while (d < text.devices.size() && !text.devices.get(d).name.equals(now())) {
                d++;
            }
            if (d == text.devices.size()) {
                throw fault(5);
            }
            at++;
            return new Cell(d, number(0, text.devices.get(d).cells - 1));
        }

        Cell freeCell(Net net) {
            Cell c = cell();
            List<Net> all = new ArrayList<>(text.nets);
            all.add(net);
            for (Net n : all) {
                if (n.drivers.contains(c) || n.receivers.contains(c)) {
                    throw fault(3);
                }
            }
            at++;
            return c;
        }

        int oldNet() {
            if (!isName()) {
                throw fault(2);
            }
            for (int n = 0; n < text.nets.size(); n++) {
                if (text.nets.get(n).name.equals(now())) {
                    return n;
                }
            }
            throw fault(5);
        }

        void net() {
            if (text.nets.size() == 6) {
                throw fault(2);
            }
            at++;
            if (!isName()) {
                throw fault(2);
            }
            for (Net other : text.nets) {
                if (other.name.equals(now())) {
                    throw fault(3);
                }
            }
            Net net = new Net();
            net.name = now();
            at++;
            must("from");
            net.drivers.add(freeCell(net));
            if (skip("and")) {
                net.drivers.add(freeCell(net));
            }
            must("to");
            net.receivers.add(freeCell(net));
            while (isName()) {
                if (net.receivers.size() == 3) {
                    throw fault(2);
                }
                net.receivers.add(freeCell(net));
            }
            if (skip("safe")) {
                net.safe = numberTaken(0, 1);
            }
            text.nets.add(net);
        }

        void shorted() {
            at++;
            int a = oldNet();
            at++;
            int b = oldNet();
            String pair = Math.min(a, b) + " " + Math.max(a, b);
            if (a == b || text.faults.contains("low " + pair) || text.faults.contains("high " + pair)) {
                throw fault(3);
            }
            at++;
            String how = now();
            if (!how.equals("low") && !how.equals("high")) {
                throw fault(2);
            }
            at++;
            text.faults.add(how + " " + pair);
        }

        void open() {
            at++;
            Cell c = cell();
            if (text.faults.contains("open " + c.device + " " + c.cell)) {
                throw fault(3);
            }
            boolean receiver = false;
            for (Net n : text.nets) {
                receiver |= n.receivers.contains(c);
            }
            if (!receiver) {
                throw fault(5);
            }
            at++;
            text.faults.add("open " + c.device + " " + c.cell);
        }

        void stuck() {
            at++;
            int n = oldNet();
            if (text.faults.contains("stuck " + n + " 0") || text.faults.contains("stuck " + n + " 1")) {
                throw fault(3);
            }
            at++;
            text.faults.add("stuck " + n + " " + numberTaken(0, 1));
        }

        Expression either(int within) {
            Expression a = both(within);
            while (skip("or")) {
                Expression l = a;
                Expression r = both(within);
                a = (d, c, n, k) -> l.at(d, c, n, k) != 0 | r.at(d, c, n, k) != 0 ? 1 : 0;
            }
            return a;
        }

        Expression both(int within) {
            Expression a = one(within);
            while (skip("and")) {
                Expression l = a;
                Expression r = one(within);
                a = (d, c, n, k) -> l.at(d, c, n, k) != 0 & r.at(d, c, n, k) != 0 ? 1 : 0;
            }
            return a;
        }

        Expression one(int within) {
            if (now().equals("not")) {
                if (within > 6) {
                    throw fault(2);
                }
                at++;
                Expression a = one(within + 1);
                return (d, c, n, k) -> a.at(d, c, n, k) == 0 ? 1 : 0;
            }
            Expression a = sum(within);
            String sign = now();
            if (!List.of("<", ">", "=").contains(sign)) {
                return a;
            }
            at++;
            Expression b = sum(within);
            return (d, c, n, k) -> {
                int compared = Integer.compare(a.at(d, c, n, k), b.at(d, c, n, k));
                return sign.equals("<") && compared < 0 || sign.equals(">") && compared > 0
                    || sign.equals("=") && compared == 0 ? 1 : 0;
            };
        }

        Expression sum(int within) {
            Expression a = term(within);
            while (now().equals("+") || now().equals("-")) {
                String sign = now();
                at++;
                Expression l = a;
                Expression r = term(within);
                a = (d, c, n, k) -> whole(sign, l.at(d, c, n, k), r.at(d, c, n, k));
            }
            return a;
        }

        Expression term(int within) {
            Expression a = unit(within);
            while (now().equals("*") || now().equals("/") || now().equals("%")) {
                String sign = now();
                at++;
                Expression l = a;
                Expression r = unit(within);
                a = (d, c, n, k) -> whole(sign, l.at(d, c, n, k), r.at(d, c, n, k));
            }
            return a;
        }

        static int whole(String sign, int left, int right) {
            BigInteger a = BigInteger.valueOf(left);
            BigInteger b = BigInteger.valueOf(right);
            switch (sign) {
                case "+": return a.add(b).intValue();
                case "-": return a.subtract(b).intValue();
                case "*": return a.multiply(b).intValue();
                case "/": return right == 0 ? 0 : a.divide(b).intValue();
                default: return right == 0 ? 0 : a.remainder(b).intValue();
            }
        }

        Expression unit(int within) {
            if (text.units == 30) {
                throw fault(2);
            }
            text.units++;
            String token = now();
            if (token.equals("(") && within > 6) {
                throw fault(2);
            }
            if (skip("(")) {
                Expression inner = either(within + 1);
                must(")");
                return inner;
            }
            if (token.matches("[0-9]+")) {
                int n = Integer.parseInt(token);
                at++;
                return (d, c, net, k) -> n;
            }
            if (!List.of("device", "cell", "net", "clock").contains(token)) {
                throw fault(2);
            }
            at++;
            return (d, c, n, k) -> token.equals("device") ? d : token.equals("cell") ? c : token.equals("net") ? n : k;
        }
    }

    // ---- what becomes of it

    static final class State {
        int state = 0;
        int clocks = 0;
        int seed = 0;
        int[] order = new int[4];
        String[] orderRegister = {"", "", "", ""};
        String[] data = {"", "", "", ""};
        String[] latches = {"", "", "", ""};
        Set<String> faults = new TreeSet<>();

        State copy() {
            State s = new State();
            s.state = state;
            s.clocks = clocks;
            s.seed = seed;
            s.order = order.clone();
            s.orderRegister = orderRegister.clone();
            s.data = data.clone();
            s.latches = latches.clone();
            s.faults = new TreeSet<>(faults);
            return s;
        }
    }

    static final class Seen {
        int kind;
        int step;
        Cell cell;
        boolean is;
        int told;
        int untold = Integer.MAX_VALUE;
    }

    static final int[][] NEXT = {{1, 0}, {1, 2}, {3, 9}, {4, 5}, {4, 5}, {6, 8}, {6, 7}, {4, 8}, {1, 2}, {10, 0},
        {11, 12}, {11, 12}, {13, 15}, {13, 14}, {11, 15}, {1, 2}};

    StringBuilder tape = new StringBuilder();
    Text text = new Text();
    State s = new State();
    final List<State> undos = new ArrayList<>();
    final List<State> redos = new ArrayList<>();
    final State[] boxes = new State[3];
    final List<Seen> seens = new ArrayList<>();
    List<Integer> lying = new ArrayList<>();
    int fault = 0;
    int place = -1;
    int time = 0;

    int feed(int... numbers) {
        if (tape.length() + 20 > 1600) {
            return -1;
        }
        for (int number : numbers) {
            for (int shift = 24; shift >= 0; shift -= 8) {
                tape.append((char) (number >>> shift & 255));
            }
        }
        return tape.length();
    }

    int end(int n) {
        if (n < 0 || n > tape.length()) {
            return -1;
        }
        tape.setLength(n);
        return n;
    }

    int board() {
        String told = tape.toString();
        tape.setLength(0);
        try {
            text = new Parser(told).board();
        } catch (Fault f) {
            fault = f.fault;
            place = f.place;
            return -1;
        }
        fault = 0;
        place = -1;
        s = new State();
        s.seed = text.draw;
        s.faults = new TreeSet<>(text.faults);
        for (int d = 0; d < text.devices.size(); d++) {
            s.order[d] = resting(d);
            s.orderRegister[d] = "0".repeat(text.devices.get(d).ir);
            s.data[d] = "0".repeat(dataBits(d));
            s.latches[d] = "0".repeat(text.devices.get(d).cells);
        }
        undos.clear();
        redos.clear();
        Arrays.fill(boxes, null);
        seens.clear();
        lying = new ArrayList<>();
        return text.devices.size();
    }

    int fault(int what) {
        return what == 0 ? fault : what == 1 ? place : -1;
    }

    int resting(int d) {
        return text.devices.get(d).id >= 0 ? 1 : (1 << text.devices.get(d).ir) - 1;
    }

    String sort(int d) {
        int order = s.order[d];
        return order == 0 ? "TEST" : order == 2 ? "LOOK" : order == 1 && text.devices.get(d).id >= 0 ? "WHO" : "PASS";
    }

    int dataBits(int d) {
        String sort = sort(d);
        return sort.equals("WHO") ? 8 : sort.equals("PASS") ? 1 : text.devices.get(d).cells;
    }

    /** Texts of registers have bit 0 first. */
    static int number(String bits) {
        int n = 0;
        for (int i = 0; i < bits.length(); i++) {
            n += bits.charAt(i) == '1' ? 1 << i : 0;
        }
        return n;
    }

    static String bits(int n, int count) {
        StringBuilder b = new StringBuilder();
        for (int i = 0; i < count; i++) {
            b.append(n >> i & 1);
        }
        return b.toString();
    }

    int device(int d, int what) {
        if (d < 0 || d >= text.devices.size() || what < 0 || what > 7) {
            return -1;
        }
        Device dev = text.devices.get(d);
        return new int[] {dev.ir, dev.id, dev.cells, s.order[d], number(s.orderRegister[d]), number(s.data[d]), dataBits(d),
            number(s.latches[d])}[what];
    }

    boolean isNet(int n) {
        return n >= 0 && n < text.nets.size();
    }

    int drive(Cell c, Net n) {
        return s.order[c.device] == 0 ? s.latches[c.device].charAt(c.cell) - '0' : Math.max(n.safe, 0);
    }

    Map<Integer, Integer> driven() {
        Map<Integer, Integer> driven = new HashMap<>();
        for (int n = 0; n < text.nets.size(); n++) {
            int and = 1;
            for (Cell c : text.nets.get(n).drivers) {
                and &= drive(c, text.nets.get(n));
            }
            driven.put(n, and);
        }
        return driven;
    }

    static int stuckAt(Set<String> faults, int n) {
        return faults.contains("stuck " + n + " 0") ? 0 : faults.contains("stuck " + n + " 1") ? 1 : -1;
    }

    Set<Integer> hanging(Set<String> faults, int n) {
        Set<Integer> group = new TreeSet<>();
        ArrayDeque<Integer> open = new ArrayDeque<>(List.of(n));
        while (!open.isEmpty()) {
            int a = open.pop();
            if (group.add(a)) {
                for (int b = 0; b < text.nets.size(); b++) {
                    String pair = Math.min(a, b) + " " + Math.max(a, b);
                    if (faults.contains("low " + pair) || faults.contains("high " + pair)) {
                        open.push(b);
                    }
                }
            }
        }
        return group;
    }

    int level(Set<String> faults, Map<Integer, Integer> driven, int n) {
        int ones = 0;
        Set<Integer> group = hanging(faults, n);
        boolean low = false;
        for (int a : group) {
            ones += stuckAt(faults, a) >= 0 ? stuckAt(faults, a) : driven.get(a);
            for (int b : group) {
                low |= faults.contains("low " + a + " " + b);
            }
        }
        return low ? (ones == group.size() ? 1 : 0) : ones > 0 ? 1 : 0;
    }

    int netOf(Cell c) {
        for (int n = 0; n < text.nets.size(); n++) {
            if (text.nets.get(n).drivers.contains(c) || text.nets.get(n).receivers.contains(c)) {
                return n;
            }
        }
        return -1;
    }

    boolean isReceiver(Cell c) {
        int n = netOf(c);
        return n >= 0 && text.nets.get(n).receivers.contains(c);
    }

    int reads(Set<String> faults, Map<Integer, Integer> driven, Cell c, int clock) {
        int n = netOf(c);
        if (faults.contains("open " + c.device + " " + c.cell)) {
            return text.floats.at(c.device, c.cell, n, clock) > 0 ? 1 : 0;
        }
        return n < 0 ? 0 : level(faults, driven, n);
    }

    boolean fighting(int n) {
        List<Cell> drivers = text.nets.get(n).drivers;
        return drivers.size() == 2 && drive(drivers.get(0), text.nets.get(n)) != drive(drivers.get(1), text.nets.get(n));
    }

    int net(int n, int what) {
        if (!isNet(n)) {
            return -1;
        }
        Net net = text.nets.get(n);
        switch (what) {
            case 0: return net.drivers.size();
            case 1: return net.receivers.size();
            case 2: return net.safe;
            case 3: return stuckAt(s.faults, n);
            case 4: return stuckAt(s.faults, n) >= 0 ? stuckAt(s.faults, n) : driven().get(n);
            case 5: return level(s.faults, driven(), n);
            case 6: return fighting(n) ? 1 : 0;
            case 7: return asBits(hanging(s.faults, n));
            default: return -1;
        }
    }

    static int asBits(Iterable<Integer> set) {
        int bits = 0;
        for (int n : set) {
            bits |= 1 << n;
        }
        return bits;
    }

    boolean isCell(int d, int c) {
        return d >= 0 && d < text.devices.size() && c >= 0 && c < text.devices.get(d).cells;
    }

    int cell(int d, int c, int what) {
        if (!isCell(d, c)) {
            return -2;
        }
        Cell cell = new Cell(d, c);
        switch (what) {
            case 0: return netOf(cell);
            case 1: return netOf(cell) < 0 ? -1 : isReceiver(cell) ? 1 : 0;
            case 2: return s.faults.contains("open " + d + " " + c) ? 1 : 0;
            case 3: return reads(s.faults, driven(), cell, s.clocks);
            default: return -2;
        }
    }

    void order(int d, int to) {
        if (s.order[d] != to) {
            s.order[d] = to;
            s.data[d] = "0".repeat(dataBits(d));
        }
    }

    static int shift(String[] registers, int count, int tdi) {
        char carried = (char) ('0' + tdi);
        for (int d = 0; d < count; d++) {
            String all = registers[d] + carried;
            carried = all.charAt(0);
            registers[d] = all.substring(1);
        }
        return carried - '0';
    }

    int tick(int tms, int tdi) {
        int out = -1;
        int count = text.devices.size();
        if (s.state == 3) {
            Map<Integer, Integer> driven = driven();
            for (int d = 0; d < count; d++) {
                String sort = sort(d);
                StringBuilder cells = new StringBuilder();
                for (int c = 0; c < text.devices.get(d).cells; c++) {
                    cells.append(reads(s.faults, driven, new Cell(d, c), s.clocks));
                }
                s.data[d] = sort.equals("WHO") ? bits(2 * text.devices.get(d).id + 1, 8)
                    : sort.equals("PASS") ? "0" : cells.toString();
            }
            s.seed = (s.seed * 137 + 71) % 1000;
            if (s.seed % 100 < text.noise && count > 0 && !s.data[count - 1].isEmpty()) {
                String last = s.data[count - 1];
                s.data[count - 1] = (last.charAt(0) == '0' ? "1" : "0") + last.substring(1);
            }
        } else if (s.state == 4) {
            out = shift(s.data, count, tdi);
        } else if (s.state == 11) {
            out = shift(s.orderRegister, count, tdi);
        }
        for (int d = 0; d < count; d++) {
            if (s.state == 0) {
                order(d, resting(d));
            } else if (s.state == 8 && s.order[d] == 0) {
                s.latches[d] = s.data[d];
            } else if (s.state == 10) {
                s.orderRegister[d] = bits(1, text.devices.get(d).ir);
            } else if (s.state == 15) {
                order(d, number(s.orderRegister[d]));
            }
        }
        s.clocks++;
        s.state = NEXT[s.state][tms];
        return out;
    }

    void act() {
        undos.add(s.copy());
        redos.clear();
        if (undos.size() > 40) {
            undos.remove(0);
        }
    }

    int clock(int tms, int tdi) {
        if (tms < 0 || tms > 1 || tdi < 0 || tdi > 1 || s.clocks >= 9999) {
            return -2;
        }
        act();
        return tick(tms, tdi);
    }

    int scan(int sort, int bits, int n) {
        if (sort < 0 || sort > 1 || n < 1 || n > 30 || s.clocks >= 9000) {
            return -1;
        }
        act();
        for (char c : walks.get(s.state + " " + (sort == 0 ? 4 : 11)).get(0).toCharArray()) {
            tick(c - '0', 0);
        }
        int out = 0;
        for (int i = 0; i < n; i++) {
            out |= tick(i == n - 1 ? 1 : 0, bits >> i & 1) << i;
        }
        tick(1, 0);
        tick(0, 0);
        return out;
    }

    List<String> singleNames() {
        List<String> all = new ArrayList<>();
        for (int n = 0; n < text.nets.size(); n++) {
            all.add("stuck " + n + " 0");
            all.add("stuck " + n + " 1");
        }
        for (int d = 0; d < text.devices.size(); d++) {
            for (int c = 0; c < text.devices.get(d).cells; c++) {
                if (isReceiver(new Cell(d, c))) {
                    all.add("open " + d + " " + c);
                }
            }
        }
        for (int a = 0; a < text.nets.size(); a++) {
            for (int b = a + 1; b < text.nets.size(); b++) {
                all.add("low " + a + " " + b);
                all.add("high " + a + " " + b);
            }
        }
        return all;
    }

    int harm(int single) {
        List<String> all = singleNames();
        if (single < 0 || single >= all.size()) {
            return -1;
        }
        String name = all.get(single);
        String other = name.startsWith("low") ? "high" + name.substring(3) : name.startsWith("high") ? "low" + name.substring(4)
            : name.startsWith("stuck") ? name.substring(0, 8) + (name.endsWith("0") ? 1 : 0) : "";
        if (s.faults.contains(other)) {
            return -1;
        }
        act();
        if (!s.faults.remove(name)) {
            s.faults.add(name);
        }
        return s.faults.size();
    }

    boolean undo() {
        if (undos.isEmpty()) {
            return false;
        }
        redos.add(s);
        s = undos.remove(undos.size() - 1);
        return true;
    }

    boolean redo() {
        if (redos.isEmpty()) {
            return false;
        }
        undos.add(s);
        s = redos.remove(redos.size() - 1);
        return true;
    }

    int goes(int tms, int n) {
        if (n < 0 || n > 30) {
            return -1;
        }
        int state = s.state;
        for (int i = 0; i < n; i++) {
            state = NEXT[state][tms >> i & 1];
        }
        return state;
    }

    /** From and to: all shortest walks, in order. */
    final Map<String, List<String>> walks = allWalks();

    static Map<String, List<String>> allWalks() {
        Map<String, List<String>> all = new HashMap<>();
        for (int from = 0; from < 16; from++) {
            for (int length = 0; length < 10; length++) {
                for (int w = 0; w < 1 << length; w++) {
                    StringBuilder walk = new StringBuilder();
                    int to = from;
                    for (int i = length - 1; i >= 0; i--) {
                        walk.append(w >> i & 1);
                        to = NEXT[to][w >> i & 1];
                    }
                    List<String> known = all.computeIfAbsent(from + " " + to, k -> new ArrayList<>());
                    if (known.isEmpty() || known.get(0).length() == length) {
                        known.add(walk.toString());
                    }
                }
            }
        }
        return all;
    }

    int walk(int from, int to) {
        lying = new ArrayList<>();
        List<String> all = walks.get(from + " " + to);
        if (all == null) {
            return -1;
        }
        for (char c : all.get(0).toCharArray()) {
            lying.add(c - '0');
        }
        return lying.size();
    }

    int walks(int from, int to) {
        List<String> all = walks.get(from + " " + to);
        return all == null ? -1 : all.size();
    }

    int farthest(int from) {
        int best = -1;
        int most = -1;
        for (int to = 0; to < 16; to++) {
            List<String> all = walks.get(from + " " + to);
            if (all != null && all.get(0).length() > most) {
                most = all.get(0).length();
                best = to;
            }
        }
        return best;
    }

    int length(int sort) {
        if (sort != 0 && sort != 1) {
            return -1;
        }
        int sum = 0;
        for (int d = 0; d < text.devices.size(); d++) {
            sum += sort == 0 ? dataBits(d) : text.devices.get(d).ir;
        }
        return sum;
    }

    int found(int i) {
        if (i < 0 || i >= text.devices.size()) {
            return -1;
        }
        int id = text.devices.get(text.devices.size() - 1 - i).id;
        return id < 0 ? -2 : id;
    }

    int fights() {
        Set<Integer> all = new TreeSet<>();
        for (int n = 0; n < text.nets.size(); n++) {
            if (fighting(n)) {
                all.add(n);
            }
        }
        return asBits(all);
    }

    int unsafe() {
        Set<Integer> all = new TreeSet<>();
        for (int n = 0; n < text.nets.size(); n++) {
            if (text.nets.get(n).safe >= 0 && text.nets.get(n).safe != level(s.faults, driven(), n)) {
                all.add(n);
            }
        }
        return asBits(all);
    }

    // ---- codes

    /** Of each net its steps, step 0 first. */
    List<String> code(int kind) {
        List<String> rows = new ArrayList<>();
        int nets = text.nets.size();
        int steps = 1;
        boolean again = true;
        while (again) {
            again = false;
            for (int k = 0; k < nets; k++) {
                again |= !bits(k + 1, steps).contains("0");
            }
            steps += again ? 1 : 0;
        }
        for (int k = 0; k < nets; k++) {
            String row = bits(k + 1, steps);
            if (kind == 1) {
                row += row.replace('0', 'x').replace('1', '0').replace('x', '1');
            } else if (kind == 2) {
                row = bits(1 << k, nets);
            }
            int safe = text.nets.get(k).safe;
            rows.add(safe < 0 ? row : ("" + safe).repeat(row.length()));
        }
        return rows;
    }

    Map<Cell, String> answers(int kind, Set<String> faults, int clock) {
        Map<Cell, String> all = new LinkedHashMap<>();
        List<String> code = code(kind);
        for (Net net : text.nets) {
            for (Cell c : net.receivers) {
                all.put(c, "");
            }
        }
        for (int step = 0; !code.isEmpty() && step < code.get(0).length(); step++) {
            Map<Integer, Integer> driven = new HashMap<>();
            for (int n = 0; n < code.size(); n++) {
                driven.put(n, code.get(n).charAt(step) - '0');
            }
            for (Cell c : all.keySet()) {
                all.put(c, all.get(c) + reads(faults, driven, c, clock));
            }
        }
        return all;
    }

    Map<Cell, String> answersNow(int kind) {
        return answers(kind, s.faults, s.clocks);
    }

    boolean isKind(int kind) {
        return kind >= 0 && kind <= 2;
    }

    int steps(int kind) {
        return !isKind(kind) ? -1 : text.nets.isEmpty() ? 0 : code(kind).get(0).length();
    }

    int tells(int kind, int n) {
        return !isKind(kind) || !isNet(n) ? -1 : number(code(kind).get(n));
    }

    int answer(int kind, int d, int c) {
        return !isKind(kind) || !isCell(d, c) || !isReceiver(new Cell(d, c)) ? -1 : number(answersNow(kind).get(new Cell(d, c)));
    }

    boolean isGood(int kind, Map<Cell, String> answers, Cell c) {
        return answers.get(c).equals(code(kind).get(netOf(c)));
    }

    int goodOnes(int kind, Map<Cell, String> answers) {
        int count = 0;
        for (Cell c : answers.keySet()) {
            count += isGood(kind, answers, c) ? 1 : 0;
        }
        return count;
    }

    int good(int kind) {
        return !isKind(kind) ? -1 : goodOnes(kind, answersNow(kind));
    }

    int aliased(int kind) {
        if (!isKind(kind)) {
            return -1;
        }
        Set<Integer> nets = new TreeSet<>();
        Map<Cell, String> answers = answersNow(kind);
        List<String> code = code(kind);
        for (Cell c : answers.keySet()) {
            boolean open = s.faults.contains("open " + c.device + " " + c.cell);
            for (int other = 0; other < code.size(); other++) {
                if (!open && other != netOf(c) && !isGood(kind, answers, c) && answers.get(c).equals(code.get(other))) {
                    nets.add(netOf(c));
                }
            }
        }
        return asBits(nets);
    }

    int confounded(int kind, int n) {
        if (!isKind(kind) || !isNet(n)) {
            return -1;
        }
        Set<Integer> nets = new TreeSet<>();
        Map<Cell, String> answers = answersNow(kind);
        for (Cell a : answers.keySet()) {
            for (Cell b : answers.keySet()) {
                if (netOf(a) == n && !hanging(s.faults, n).contains(netOf(b)) && !isGood(kind, answers, a)
                    && !isGood(kind, answers, b) && answers.get(a).equals(answers.get(b))) {
                    nets.add(netOf(b));
                }
            }
        }
        return asBits(nets);
    }

    int verdict(int kind, int n) {
        if (!isKind(kind) || !isNet(n)) {
            return -1;
        }
        Map<Cell, String> answers = answersNow(kind);
        Set<String> own = new TreeSet<>();
        boolean good = true;
        for (Cell c : text.nets.get(n).receivers) {
            own.add(answers.get(c));
            good &= isGood(kind, answers, c);
        }
        String only = own.iterator().next();
        boolean like = false;
        for (Cell c : answers.keySet()) {
            like |= netOf(c) != n && answers.get(c).equals(only);
        }
        return good ? 0 : own.size() > 1 ? 4 : !only.contains("1") ? 1 : !only.contains("0") ? 2 : like ? 3 : 4;
    }

    // ---- single faults

    int singles() {
        return singleNames().size();
    }

    int single(int single, int what) {
        if (single < 0 || single >= singles()) {
            return -1;
        }
        String[] words = singleNames().get(single).split(" ");
        switch (what) {
            case 0: return words[0].equals("stuck") ? 0 : words[0].equals("open") ? 1 : 2;
            case 1: return Integer.parseInt(words[1]);
            case 2: return Integer.parseInt(words[2]);
            case 3: return s.faults.contains(singleNames().get(single)) ? 1 : 0;
            default: return -1;
        }
    }

    final Map<String, Map<Cell, String>> known = new HashMap<>();
    Text knownOf = null;

    Map<Cell, String> answersOf(int kind, int single) {
        if (knownOf != text) {
            known.clear();
            knownOf = text;
        }
        return known.computeIfAbsent(kind + " " + single,
            k -> answers(kind, single < 0 ? Set.of() : Set.of(singleNames().get(single)), 0));
    }

    boolean isCase(int single) {
        return single >= -1 && single < singles();
    }

    int apart(int kind, int single, int other) {
        if (!isKind(kind) || !isCase(single) || !isCase(other)) {
            return -2;
        }
        return answersOf(kind, single).equals(answersOf(kind, other)) ? 0 : 1;
    }

    int told(int kind, int what) {
        if (!isKind(kind) || what < 0 || what > 1) {
            return -1;
        }
        int count = 0;
        for (int a = 0; a < singles(); a++) {
            boolean told = apart(kind, a, -1) == 1;
            for (int b = 0; b < singles() && what == 1; b++) {
                told &= a == b || apart(kind, a, b) == 1;
            }
            count += told ? 1 : 0;
        }
        return count;
    }

    int least() {
        int best = -1;
        for (int kind = 0; kind < 3; kind++) {
            if (told(kind, 0) == singles() && (best < 0 || steps(kind) < steps(best))) {
                best = kind;
            }
        }
        return best;
    }

    int mendFirst(int what) {
        int best = -1;
        int most = -1;
        List<String> all = singleNames();
        for (int single = 0; single < all.size(); single++) {
            if (s.faults.contains(all.get(single))) {
                Set<String> less = new TreeSet<>(s.faults);
                less.remove(all.get(single));
                int good = goodOnes(0, answers(0, less, s.clocks));
                if (good > most) {
                    most = good;
                    best = single;
                }
            }
        }
        return what == 0 ? best : what == 1 ? most : -1;
    }

    int safest(int what) {
        int best = -1;
        int most = -1;
        for (int pattern = 0; pattern < 1 << text.nets.size(); pattern++) {
            Map<Integer, Integer> driven = new HashMap<>();
            for (int n = 0; n < text.nets.size(); n++) {
                driven.put(n, pattern >> n & 1);
            }
            boolean safe = true;
            int count = 0;
            for (int n = 0; n < text.nets.size(); n++) {
                Net net = text.nets.get(n);
                safe &= net.safe < 0 || net.safe == level(s.faults, driven, n);
                for (Cell c : net.receivers) {
                    count += reads(s.faults, driven, c, s.clocks) == driven.get(n) ? 1 : 0;
                }
            }
            if (safe && count > most) {
                most = count;
                best = pattern;
            }
        }
        return what == 0 ? best : what == 1 ? most : -1;
    }

    int cost(int kind) {
        if (!isKind(kind)) {
            return -1;
        }
        int cells = 0;
        for (Device d : text.devices) {
            cells += d.cells;
        }
        return 1 + length(1) + 6 + steps(kind) * (cells + 5);
    }

    int worst() {
        int best = -1;
        int most = 0;
        Map<Cell, String> answers = answersNow(0);
        for (int n = 0; n < text.nets.size(); n++) {
            int bad = 0;
            for (Cell c : text.nets.get(n).receivers) {
                bad += isGood(0, answers, c) ? 0 : 1;
            }
            if (bad > most) {
                most = bad;
                best = n;
            }
        }
        return best;
    }

    int law(int n) {
        if (n < 0 || n > 1) {
            return -1;
        }
        Expression was = text.floats;
        text.floats = (d, c, net, k) -> n;
        int good = good(0);
        text.floats = was;
        return good;
    }

    int odds(int n, int part) {
        if (n < 0 || n > 4 || part < 0 || part > 1) {
            return -1;
        }
        BigInteger upper = BigInteger.valueOf(100 - text.noise).pow(n);
        BigInteger lower = BigInteger.valueOf(100).pow(n);
        return (part == 0 ? upper : lower).divide(upper.gcd(lower)).intValue();
    }

    int lies(int i) {
        return i < 0 || i >= lying.size() ? -2 : lying.get(i);
    }

    // ---- what was seen

    int seen(int kind, int step, int d, int c, boolean is) {
        if (!isKind(kind) || step < 0 || step >= steps(kind) || !isCell(d, c) || !isReceiver(new Cell(d, c))
            || seens.size() == 30) {
            return -1;
        }
        Seen seen = new Seen();
        seen.kind = kind;
        seen.step = step;
        seen.cell = new Cell(d, c);
        seen.is = is;
        seen.told = time;
        seens.add(seen);
        return seens.size() - 1;
    }

    boolean untell(int i) {
        if (i < 0 || i >= seens.size() || seens.get(i).untold != Integer.MAX_VALUE) {
            return false;
        }
        seens.get(i).untold = time;
        return true;
    }

    int later(int by) {
        if (by < 0 || by > 1000 || time + by > 100000) {
            return -1;
        }
        time += by;
        return time;
    }

    List<Integer> fitting(int k) {
        List<Integer> all = new ArrayList<>();
        for (int single = -1; single < singles(); single++) {
            boolean fits = true;
            for (Seen seen : seens) {
                boolean counts = seen.told <= k && !(seen.untold != Integer.MAX_VALUE && seen.untold <= k);
                boolean is = answersOf(seen.kind, single).get(seen.cell).charAt(seen.step) == '1';
                fits &= !counts || is == seen.is;
            }
            if (fits) {
                all.add(single);
            }
        }
        return all;
    }

    int fits(int k) {
        return fitting(k).size();
    }

    int culprit(int i, int k) {
        List<Integer> all = fitting(k);
        return i < 0 || i >= all.size() ? -2 : all.get(i);
    }

    int ask(int kind, int what, int k) {
        if (!isKind(kind) || what < 0 || what > 1) {
            return -1;
        }
        List<Integer> all = fitting(k);
        int best = -1;
        int fewest = -1;
        for (int step = 0; step < steps(kind) && !all.isEmpty(); step++) {
            Map<String, Integer> classes = new HashMap<>();
            int most = 0;
            for (int single : all) {
                StringBuilder read = new StringBuilder();
                for (String answer : answersOf(kind, single).values()) {
                    read.append(answer.charAt(step));
                }
                most = Math.max(most, classes.merge(read.toString(), 1, Integer::sum));
            }
            if (best < 0 || most < fewest) {
                best = step;
                fewest = most;
            }
        }
        return what == 0 ? best : fewest;
    }

    int image(int box) {
        if (box < 0 || box > 2) {
            return -1;
        }
        boxes[box] = s.copy();
        return s.state;
    }

    int back(int box) {
        if (box < 0 || box > 2 || boxes[box] == null) {
            return -1;
        }
        s = boxes[box].copy();
        undos.clear();
        redos.clear();
        return s.state;
    }

    int about(int what) {
        int[] all = {text.devices.size(), text.nets.size(), s.faults.size(), s.state, s.clocks, s.seed, undos.size(),
            redos.size(), seens.size(), time, tape.length(), text.units, lying.size(), text.noise};
        return what < 0 || what >= all.length ? -1 : all[what];
    }
}
