import java.util.ArrayList;
import java.util.List;
import java.util.NoSuchElementException;
import java.util.Random;

/** Long runs of calls drawn by chance, the same each time, with every answer compared with Model's: all promises. */
public final class ModelTest {
    private static final int CALLS = 512;

    private final Random random;
    private final TownExchange x = new TownExchange();
    private final Model m = new Model();
    private final List<String> told = new ArrayList<>();
    private final int wrongShare;
    private final int manySwitches;
    private final int levels;
    private static final int[][] SEEN = new int[32][12];

    private ModelTest(long seed) {
        random = new Random(seed);
        wrongShare = random.nextInt(3) == 0 ? 8 : 60;
        manySwitches = random.nextInt(3) > 0 ? 8 : 3;
        levels = random.nextBoolean() ? 10 : 2 + random.nextInt(2);
    }

    public static void main(String[] args) {
        int runs = args.length > 0 ? Integer.parseInt(args[0]) : 600;
        long first = args.length > 1 ? Long.parseLong(args[1]) : 1;
        for (long seed = first; seed < first + runs; seed++) {
            ModelTest run = new ModelTest(seed);
            run.play(seed);
        }
        if (args.length > 0) {
            for (int i = 0; i < 31; i++) {
                StringBuilder row = new StringBuilder(NAMES[i]).append(':');
                for (int j = 0; j < 12; j++) {
                    row.append(' ').append(SEEN[i][j]);
                }
                System.out.println(row);
            }
        }
        Due.finish("ModelTest");
    }

    private static final String[] NAMES = {"", "", "seconds", "rack", "outlet", "zone", "line", "out", "faulty", "lift",
        "dial", "answer", "end", "feed", "tariff", "word", "bill", "would", "block", "laid", "lost", "more", "test",
        "explain", "sure", "forget", "look", "path", "held", "book", "count"};

    private void play(long seed) {
        build();
        for (int i = told.size(); i < CALLS; i++) {
            step();
        }
    }

    private void same(int promise, String call, long got, long want) {
        told.add(call + " = " + got);
        SEEN[promise][(int) Math.max(0, Math.min(11, want + 1))]++;
        Due.is(NAMES[promise] + " " + call, got, want);
        if (got != want) {
            for (String t : told) {
                System.out.println("  " + t);
            }
            System.exit(1);
        }
    }

    private static long one(boolean yes) {
        return yes ? 1 : 0;
    }

    private int wild() {
        int[] some = {-1, -2, 12, 40, 41, 96, 99, 100, 116, 1000, 100000, Integer.MAX_VALUE, Integer.MIN_VALUE, 0, 1, 5, 8};
        return some[random.nextInt(some.length)];
    }

    /** From 0 below n, seldom something wild. */
    private int pick(int n) {
        return random.nextInt(wrongShare) == 0 || n <= 0 ? wild() : random.nextInt(n);
    }

    private int anyLine() {
        return pick(m.lines.size());
    }

    private int lineThatIs(int condition) {
        List<Integer> fit = new ArrayList<>();
        for (int i = 0; i < m.lines.size(); i++) {
            if (m.lines.get(i).condition == condition) {
                fit.add(i);
            }
        }
        return fit.isEmpty() || random.nextInt(wrongShare) == 0 ? anyLine() : fit.get(random.nextInt(fit.size()));
    }

    private int anySwitch() {
        int rack = pick(m.racks.size());
        return rack < 0 || rack >= m.racks.size() ? wild() : rack * 8 + pick(m.racks.get(rack).switches);
    }

    private int rackOf(int kind) {
        List<Integer> fit = new ArrayList<>();
        for (int i = 0; i < m.racks.size(); i++) {
            if (m.racks.get(i).kind == kind) {
                fit.add(i);
            }
        }
        return fit.isEmpty() || random.nextInt(wrongShare) == 0 ? pick(m.racks.size()) : fit.get(random.nextInt(fit.size()));
    }

    private void rack() {
        int kind = random.nextInt(wrongShare) == 0 ? wild() : m.racks.size() % 2;
        int switches = 1 + pick(manySwitches);
        int sections = random.nextInt(wrongShare) == 0 ? wild() : kind == 1 ? 1 : 1 + random.nextInt(2);
        same(3, kind + " " + switches + " " + sections, x.rack(kind, switches, sections), m.rack(kind, switches, sections));
    }

    private void outlet() {
        int rack = rackOf(0);
        int section = pick(rack >= 0 && rack < m.racks.size() ? m.racks.get(rack).sections : 2);
        int level = pick(levels);
        int place = pick(4);
        int end = random.nextInt(5) == 0 ? 100 + pick(random.nextBoolean() ? 16 : 2) : random.nextInt(15) == 0 ? -1 : anySwitch();
        same(4, rack + " " + section + " " + level + " " + place + " " + end,
                one(x.outlet(rack, section, level, place, end)), one(m.outlet(rack, section, level, place, end)));
    }

    private void line() {
        int home = rackOf(0);
        int last = rackOf(1);
        int number = random.nextInt(3) > 0 ? pick(levels) * 10 + pick(levels) : pick(100);
        same(6, home + " " + last + " " + number, x.line(home, last, number), m.line(home, last, number));
    }

    private void build() {
        int racks = 2 + random.nextInt(random.nextInt(4) == 0 ? 11 : 4);
        for (int i = 0; i < racks; i++) {
            rack();
        }
        int outlets = random.nextInt(100) + 10;
        for (int i = 0; i < outlets; i++) {
            outlet();
        }
        int lines = 4 + random.nextInt(45);
        for (int i = 0; i < lines; i++) {
            line();
        }
    }

    /** Digits that lead somewhere, as often as not. */
    private int[] digits(int line) {
        if (random.nextInt(4) == 0 || line < 0 || line >= m.lines.size()) {
            return new int[] {random.nextInt(wrongShare) == 0 ? wild() : random.nextInt(100000), random.nextInt(wrongShare) == 0 ? wild() : 1 + random.nextInt(5)};
        }
        int rack = m.lines.get(line).home;
        int number = 0;
        int many = 0;
        while (many < 5) {
            List<int[]> ways = new ArrayList<>();
            for (int level = 0; level < 10; level++) {
                for (int section = 0; section < m.racks.get(rack).sections; section++) {
                    for (int end : m.ends(rack, section, level)) {
                        ways.add(new int[] {level, end});
                    }
                }
            }
            if (ways.isEmpty()) {
                break;
            }
            int[] way = ways.get(random.nextInt(ways.size()));
            number = number * 10 + way[0];
            many++;
            if (way[1] >= 100) {
                number = number * 1000 + random.nextInt(1000);
                many += 3;
                break;
            }
            rack = way[1] / 8;
            if (m.racks.get(rack).kind == 1) {
                List<Integer> there = new ArrayList<>();
                for (Model.Line l : m.lines) {
                    if (l.last == rack) {
                        there.add(l.number);
                    }
                }
                number = number * 100 + (there.isEmpty() ? 77 : there.get(random.nextInt(there.size())));
                many += 2;
                break;
            }
        }
        if (many > 5 || many == 0) {
            return new int[] {random.nextInt(100000), 5};
        }
        if (random.nextInt(8) == 0 && many < 5) {
            return new int[] {number * 10 + 3, many + 1};
        }
        return new int[] {number, many};
    }

    private void step() {
        switch (random.nextInt(24)) {
            case 0: seconds(); break;
            case 1: outlet(); break;
            case 2: troubles(); break;
            case 3: case 4: case 5: wholeCall(); break;
            case 7: lift(); break;
            case 8: dial(); break;
            case 9: answer(); answer(); answer(); seconds(); break;
            case 10: end(); end(); break;
            case 11: tariff(); break;
            case 12: books(); break;
            case 13: case 14: would(); break;
            case 15: block(); break;
            case 16: case 17: laid(); break;
            case 18: loss(); break;
            case 19: case 20: tests(); break;
            case 21: looks(); break;
            case 6: case 22: end(); end(); break;
            default: seldom(); break;
        }
    }

    private void seconds() {
        int n = random.nextInt(wrongShare) == 0 ? wild() : random.nextInt(random.nextInt(3) == 0 ? 60000 : 700);
        same(2, "" + n, x.seconds(n), m.seconds(n));
    }

    private void troubles() {
        int which = anySwitch();
        boolean yes = random.nextInt(4) == 0;
        if (random.nextBoolean()) {
            same(7, which + " " + yes, one(x.out(which, yes)), one(m.out(which, yes)));
        } else {
            same(8, which + " " + yes, one(x.faulty(which, yes)), one(m.faulty(which, yes)));
        }
    }

    private void lift() {
        int line = lineThatIs(0);
        same(9, "" + line, x.lift(line), m.lift(line));
    }

    private void dial() {
        int line = lineThatIs(1);
        int digit = pick(random.nextBoolean() ? 10 : levels);
        same(10, line + " " + digit, x.dial(line, digit), m.dial(line, digit));
    }

    private void wholeCall() {
        int line = lineThatIs(0);
        int[] d = digits(line);
        same(9, "" + line, x.lift(line), m.lift(line));
        if (d[0] < 0 || d[0] > 99999 || d[1] < 1 || d[1] > 5) {
            return;
        }
        for (int digit : Model.digitsOf(d[0], d[1])) {
            same(10, line + " " + digit, x.dial(line, digit), m.dial(line, digit));
        }
    }

    private void answer() {
        int line = lineThatIs(1);
        same(11, "" + line, one(x.answer(line)), one(m.answer(line)));
    }

    private void end() {
        int line = lineThatIs(1);
        same(12, "" + line, x.end(line), m.end(line));
    }

    private String expression(int depth) {
        String[] parts = {"zone", "hour", "day", "lasted", "units", "line", "a", "b", "c", "d", "peak"};
        String[] joins = {" and ", " or ", "<", " = ", "+", "-", "*", " < ", "*", "+"};
        switch (random.nextInt(depth > 5 ? 3 : 6)) {
            case 0: return "" + random.nextInt(random.nextBoolean() ? 20 : 10000);
            case 1: case 2: return parts[random.nextInt(random.nextInt(3) == 0 ? parts.length : 7)];
            case 3: return "(" + expression(depth + 1) + ")";
            case 4: return (random.nextBoolean() ? "not " : "not(") .replace("(", " ") + expression(depth + 1);
            default: return expression(depth + 1) + joins[random.nextInt(joins.length)] + expression(depth + 1);
        }
    }

    private void tariff() {
        StringBuilder text = new StringBuilder();
        String[] names = {"a", "b", "c", "d", "peak", "night", "x", "abcdefgh"};
        int lines = random.nextInt(random.nextInt(8) == 0 ? 20 : 5);
        for (int i = 0; i < lines; i++) {
            if (random.nextInt(3) == 0 || i == 0) {
                text.append("let ").append(names[random.nextInt(3) == 0 ? random.nextInt(names.length) : Math.min(i, 7)]).append("=");
            } else {
                text.append("unit ").append(random.nextInt(102)).append(" each ").append(28 + random.nextInt(900)).append(" when ");
            }
            text.append(random.nextInt(6) == 0 ? expression(0) : random.nextInt(3) == 0 ? "1" : "hour " + "<=".charAt(random.nextInt(2)) + " " + random.nextInt(20));
            text.append(random.nextInt(5) == 0 ? " ;\n" : ";");
        }
        if (random.nextInt(3) == 0 && text.length() > 0) {
            int at = random.nextInt(text.length());
            text.setCharAt(at, (char) (32 + random.nextInt(95)));
        }
        for (int at = 0; at < text.length(); at += 24) {
            long a = Due.pack(text.toString(), at);
            long b = Due.pack(text.toString(), at + 8);
            long c = Due.pack(text.toString(), at + 16);
            same(13, a + " " + b + " " + c, x.feed(a, b, c), m.feed(a, b, c));
        }
        if (random.nextInt(20) == 0) {
            long a = random.nextLong();
            same(13, "" + a, x.feed(a, a * 3, ~a), m.feed(a, a * 3, ~a));
        }
        same(14, text.toString(), x.tariff(), m.tariff());
    }

    private void books() {
        int call = pick(m.book.size());
        int units = pick(10000);
        same(15, call + " " + units, one(x.word(call, units)), one(m.word(call, units)));
        int line = anyLine();
        int from = pick(12);
        int to = random.nextBoolean() ? 11 : pick(12);
        int t = random.nextBoolean() ? m.now / 86400 : pick(12);
        same(16, line + " " + from + " " + to + " " + t, x.bill(line, from, to, t), m.bill(line, from, to, t));
        int what = pick(4);
        same(29, call + " " + what, x.book(call, what), m.book(call, what));
    }

    private void would() {
        int line = lineThatIs(0);
        int[] d = digits(line);
        same(17, line + " " + d[0] + " " + d[1], x.would(line, d[0], d[1]), m.would(line, d[0], d[1]));
    }

    private void block() {
        int a = lineThatIs(0);
        int b = lineThatIs(0);
        int[] d = digits(a);
        int[] e = digits(b);
        same(18, a + " " + d[0] + " " + d[1] + " " + b + " " + e[0] + " " + e[1],
                x.block(a, d[0], d[1], b, e[0], e[1]), m.block(a, d[0], d[1], b, e[0], e[1]));
    }

    private void laid() {
        int line = lineThatIs(0);
        int[] d = digits(line);
        for (int what = 0; what < 2; what++) {
            same(19, line + " " + d[0] + " " + d[1] + " " + what, x.laid(line, d[0], d[1], what), m.laid(line, d[0], d[1], what));
        }
        if (random.nextInt(wrongShare) == 0) {
            int what = wild();
            same(19, line + " " + d[0] + " " + d[1] + " " + what, x.laid(line, d[0], d[1], what), m.laid(line, d[0], d[1], what));
        }
    }

    private void loss() {
        int rack = pick(m.racks.size());
        int level = pick(levels);
        int k = 1 + pick(rack >= 0 && rack < m.racks.size() ? m.racks.get(rack).switches : 8);
        int r = random.nextInt(4) == 0 ? pick(1001) : pick(400);
        same(20, rack + " " + level + " " + k, x.lost(rack, level, k), m.lost(rack, level, k));
        same(21, rack + " " + level + " " + k + " " + r, x.more(rack, level, k, r), m.more(rack, level, k, r));
    }

    private void tests() {
        int line = lineThatIs(0);
        int[] d = digits(line);
        same(22, line + " " + d[0] + " " + d[1], x.test(line, d[0], d[1]), m.test(line, d[0], d[1]));
        if (random.nextInt(3) == 0) {
            int what = pick(4);
            same(23, "" + what, x.explain(what), m.explain(what));
            int which = anySwitch();
            same(24, "" + which, x.sure(which), m.sure(which));
        }
        if (random.nextInt(8) == 0) {
            same(25, "", x.forget(), m.forget());
        }
    }

    private void looks() {
        int line = anyLine();
        int what = pick(6);
        long got = -99;
        long want = -99;
        try {
            got = x.look(line, what);
        } catch (NoSuchElementException e) {
            got = -7;
        }
        try {
            want = m.look(line, what);
        } catch (NoSuchElementException e) {
            want = -7;
        }
        same(26, line + " " + what, got, want);
        int i = pick(5);
        same(27, line + " " + i, x.path(line, i), m.path(line, i));
        int end = random.nextInt(4) == 0 ? 100 + pick(16) : anySwitch();
        same(28, "" + end, x.held(end), m.held(end));
        int of = pick(13);
        same(30, "" + of, x.count(of), m.count(of));
    }

    private void seldom() {
        switch (random.nextInt(4)) {
            case 0: rack(); break;
            case 1: line(); break;
            case 2:
                int junction = pick(16);
                int z = 1 + pick(9);
                same(5, junction + " " + z, one(x.zone(junction, z)), one(m.zone(junction, z)));
                break;
            default: wholeState(); break;
        }
    }

    /** All that can be seen, so that nothing is changed unseen. */
    private void wholeState() {
        for (int what = 0; what <= 12; what++) {
            same(30, "" + what, x.count(what), m.count(what));
        }
        for (int line = 0; line < m.lines.size(); line++) {
            for (int what = 0; what <= 5; what++) {
                same(26, line + " " + what, x.look(line, what), m.look(line, what));
            }
        }
        for (int end = 0; end < 116; end++) {
            same(28, "" + end, x.held(end), m.held(end));
        }
    }
}
