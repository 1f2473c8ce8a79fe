import java.util.ArrayList;
import java.util.Arrays;
import java.util.HashMap;
import java.util.HashSet;
import java.util.List;
import java.util.Map;
import java.util.NoSuchElementException;
import java.util.Set;
import java.util.TreeMap;
import java.util.TreeSet;

/**
 * The document told once more, as plainly as can be and without regard to speed: what would be is played on a copy,
 * layings, choices and sets are all listed, and the tariff is a tree. ModelTest compares the class with it.
 */
final class Model {
    static final class Rack {
        int kind;
        int switches;
        int sections;
        Map<List<Integer>, Integer> outlets = new HashMap<>();
    }

    static final class Line {
        int home;
        int last;
        int number;
        int condition;
        int state;
        List<Integer> path = new ArrayList<>();
        List<Integer> digits = new ArrayList<>();
        List<Integer> sinceHead = new ArrayList<>();
        int rings = -1;
        int answered = -1;
    }

    record Entry(int line, int units, int day, int ended) {
    }

    record Word(int call, int units, int day) {
    }

    record Test(boolean failed, Set<Integer> met) {
    }

    int now;
    List<Rack> racks = new ArrayList<>();
    List<Line> lines = new ArrayList<>();
    int[] zones = new int[16];
    Set<Integer> out = new HashSet<>();
    Set<Integer> faulty = new HashSet<>();
    Map<Integer, Integer> held = new TreeMap<>();
    StringBuilder tape = new StringBuilder();
    ModelTariff tariff = new ModelTariff();
    List<Entry> book = new ArrayList<>();
    List<Word> words = new ArrayList<>();
    List<Test> tests = new ArrayList<>();

    Model() {
        Arrays.fill(zones, 1);
    }

    Model copy() {
        Model m = new Model();
        m.now = now;
        m.racks = racks;
        m.out = out;
        m.faulty = faulty;
        m.held = new TreeMap<>(held);
        for (Line line : lines) {
            Line c = new Line();
            c.home = line.home;
            c.last = line.last;
            c.number = line.number;
            c.condition = line.condition;
            c.state = line.state;
            c.path = new ArrayList<>(line.path);
            c.digits = new ArrayList<>(line.digits);
            c.sinceHead = new ArrayList<>(line.sinceHead);
            c.rings = line.rings;
            c.answered = line.answered;
            m.lines.add(c);
        }
        return m;
    }

    int seconds(int n) {
        if (n < 0 || n > 100000 || now + n > 999999) {
            return -1;
        }
        return now += n;
    }

    int rack(int kind, int switches, int sections) {
        if (kind != 0 && kind != 1 || switches < 1 || switches > 8 || sections < 1 || sections > 2
                || kind == 1 && sections != 1 || racks.size() == 12) {
            return -1;
        }
        Rack r = new Rack();
        r.kind = kind;
        r.switches = switches;
        r.sections = sections;
        racks.add(r);
        return racks.size() - 1;
    }

    boolean isSwitch(int s) {
        return s >= 0 && s / 8 < racks.size() && s % 8 < racks.get(s / 8).switches;
    }

    boolean isRack(int rack, int kind) {
        return rack >= 0 && rack < racks.size() && racks.get(rack).kind == kind;
    }

    boolean outlet(int rack, int section, int level, int place, int end) {
        if (!isRack(rack, 0) || section < 0 || section >= racks.get(rack).sections || level < 0 || level > 9
                || place < 0 || place > 3) {
            return false;
        }
        boolean junction = end >= 100 && end <= 115;
        if (end != -1 && !junction && !(isSwitch(end) && end / 8 != rack)) {
            return false;
        }
        racks.get(rack).outlets.put(List.of(section, level, place), end);
        return true;
    }

    List<Integer> ends(int rack, int section, int level) {
        List<Integer> found = new ArrayList<>();
        for (int place = 0; place < 4; place++) {
            int end = racks.get(rack).outlets.getOrDefault(List.of(section, level, place), -1);
            if (end != -1) {
                found.add(end);
            }
        }
        return found;
    }

    boolean zone(int junction, int z) {
        if (junction < 0 || junction > 15 || z < 1 || z > 9) {
            return false;
        }
        zones[junction] = z;
        return true;
    }

    int numbered(int rack, int number) {
        for (int i = 0; i < lines.size(); i++) {
            if (lines.get(i).last == rack && lines.get(i).number == number) {
                return i;
            }
        }
        return -1;
    }

    int line(int home, int last, int number) {
        if (!isRack(home, 0) || !isRack(last, 1) || number < 0 || number > 99 || numbered(last, number) >= 0
                || lines.size() == 40) {
            return -1;
        }
        Line line = new Line();
        line.home = home;
        line.last = last;
        line.number = number;
        lines.add(line);
        return lines.size() - 1;
    }

    boolean out(int which, boolean yes) {
        return isSwitch(which) && ((yes ? out.add(which) : out.remove(which)) || true);
    }

    boolean faulty(int which, boolean yes) {
        return isSwitch(which) && ((yes ? faulty.add(which) : faulty.remove(which)) || true);
    }

    boolean is(int line, int condition) {
        return line >= 0 && line < lines.size() && lines.get(line).condition == condition;
    }

    int lift(int line) {
        if (!is(line, 0)) {
            return -1;
        }
        Line l = lines.get(line);
        for (int s = l.home * 8; s < l.home * 8 + racks.get(l.home).switches; s++) {
            if (!held.containsKey(s) && !out.contains(s)) {
                l.condition = 1;
                l.path.add(s);
                held.put(s, line);
                return l.state = faulty.contains(s) ? 2 : 0;
            }
        }
        return 7;
    }

    int dial(int line, int digit) {
        if (!is(line, 1) || digit < 0 || digit > 9) {
            return -1;
        }
        Line l = lines.get(line);
        if (l.state >= 2) {
            return l.state;
        }
        l.digits.add(digit);
        int head = l.path.get(l.path.size() - 1);
        if (head < 100 && racks.get(head / 8).kind == 0) {
            List<Integer> ends = ends(head / 8, head % 8 % racks.get(head / 8).sections, digit);
            for (int end : ends) {
                if (!held.containsKey(end) && !out.contains(end)) {
                    l.path.add(end);
                    held.put(end, line);
                    l.sinceHead.clear();
                    return l.state = faulty.contains(end) ? 2 : 1;
                }
            }
            return l.state = ends.isEmpty() ? 4 : 3;
        }
        l.sinceHead.add(digit);
        if (head >= 100) {
            return l.state = l.sinceHead.size() == 3 ? 5 : 1;
        }
        if (l.sinceHead.size() == 1) {
            return l.state = 1;
        }
        int rung = numbered(head / 8, l.sinceHead.get(0) * 10 + l.sinceHead.get(1));
        if (rung < 0) {
            return l.state = 4;
        }
        if (lines.get(rung).condition != 0) {
            return l.state = 3;
        }
        lines.get(rung).condition = 2;
        l.rings = rung;
        return l.state = 5;
    }

    boolean answer(int line) {
        if (!is(line, 1) || lines.get(line).state != 5) {
            return false;
        }
        lines.get(line).state = 6;
        lines.get(line).answered = now;
        return true;
    }

    int end(int line) {
        if (!is(line, 1)) {
            return -1;
        }
        Line l = lines.get(line);
        int units = 0;
        if (l.state == 6) {
            int head = l.path.get(l.path.size() - 1);
            units = tariff.units(l.answered, now, head >= 100 ? zones[head - 100] : 0, line);
            if (book.size() < 200) {
                book.add(new Entry(line, units, l.answered / 86400, now / 86400));
            }
        }
        held.keySet().removeAll(l.path);
        if (l.rings >= 0) {
            lines.get(l.rings).condition = 0;
        }
        Line fresh = new Line();
        fresh.home = l.home;
        fresh.last = l.last;
        fresh.number = l.number;
        lines.set(line, fresh);
        return units;
    }

    int feed(long a, long b, long c) {
        for (long eight : new long[] {a, b, c}) {
            for (int i = 7; i >= 0; i--) {
                char sign = (char) (eight >> 8 * i & 0xff);
                if ((sign == '\n' || sign >= ' ' && sign <= '~') && tape.length() < 1000) {
                    tape.append(sign);
                }
            }
        }
        return tape.length();
    }

    int tariff() {
        String text = tape.toString();
        tape.setLength(0);
        ModelTariff read = new ModelTariff();
        int fault = read.read(text);
        if (fault == 0) {
            tariff = read;
        }
        return fault;
    }

    boolean word(int call, int units) {
        if (call < 0 || call >= book.size() || units < 0 || units > 9999 || words.size() == 200) {
            return false;
        }
        return words.add(new Word(call, units, now / 86400));
    }

    int bill(int line, int from, int to, int t) {
        if (line < 0 || line >= lines.size() || from < 0 || to > 11 || from > to || t < 0 || t > now / 86400) {
            return -1;
        }
        int sum = 0;
        for (int i = 0; i < book.size(); i++) {
            Entry e = book.get(i);
            if (e.line == line && e.day >= from && e.day <= to && e.ended <= t) {
                int units = e.units;
                for (Word w : words) {
                    if (w.call == i && w.day <= t) {
                        units = w.units;
                    }
                }
                sum += units;
            }
        }
        return sum;
    }

    boolean mayDial(int line, int digits, int many) {
        return is(line, 0) && digits >= 0 && digits <= 99999 && many >= 1 && many <= 5;
    }

    static List<Integer> digitsOf(int digits, int many) {
        String text = String.format("%05d", digits).substring(5 - many);
        List<Integer> list = new ArrayList<>();
        for (char c : text.toCharArray()) {
            list.add(c - '0');
        }
        return list;
    }

    int play(int line, int digits, int many) {
        int state = lift(line);
        for (int digit : digitsOf(digits, many)) {
            if (state != 7 && state != -1) {
                state = dial(line, digit);
            }
        }
        return state;
    }

    int would(int line, int digits, int many) {
        return mayDial(line, digits, many) ? copy().play(line, digits, many) : -1;
    }

    int block(int a, int digitsA, int manyA, int b, int digitsB, int manyB) {
        if (!mayDial(a, digitsA, manyA) || !mayDial(b, digitsB, manyB) || a == b
                || would(a, digitsA, manyA) != 5 || would(b, digitsB, manyB) != 5) {
            return -1;
        }
        Model first = copy();
        first.play(a, digitsA, manyA);
        Model second = copy();
        second.play(b, digitsB, manyB);
        return (first.would(b, digitsB, manyB) == 5 ? 0 : 1) + (second.would(a, digitsA, manyA) == 5 ? 0 : 2);
    }

    /** All ways to lay a call: goal -2 rings a QUIET line or a junction, -1 a junction, else that line. */
    List<Set<Integer>> layings(int line, List<Integer> digits, int goal, Set<Integer> freed) {
        List<Set<Integer>> found = new ArrayList<>();
        int home = lines.get(line).home;
        for (int s = 0; s < racks.get(home).switches; s++) {
            layOn(new ArrayList<>(List.of(home * 8 + s)), line, digits, goal, freed, found);
        }
        return found;
    }

    private void layOn(List<Integer> path, int line, List<Integer> digits, int goal, Set<Integer> freed,
            List<Set<Integer>> found) {
        int end = path.get(path.size() - 1);
        if (held.containsKey(end) && !freed.contains(end) || out.contains(end) || faulty.contains(end)
                || path.indexOf(end) != path.size() - 1) {
            return;
        }
        List<Integer> rest = digits.subList(path.size() - 1, digits.size());
        if (end >= 100) {
            if (rest.size() >= 3 && goal < 0) {
                found.add(new HashSet<>(path));
            }
        } else if (racks.get(end / 8).kind == 1) {
            int met = rest.size() >= 2 ? numbered(end / 8, rest.get(0) * 10 + rest.get(1)) : -1;
            if (met >= 0 && (goal == -2 ? met != line && lines.get(met).condition == 0 : met == goal)) {
                found.add(new HashSet<>(path));
            }
        } else if (!rest.isEmpty()) {
            for (int next : ends(end / 8, end % 8 % racks.get(end / 8).sections, rest.get(0))) {
                List<Integer> longer = new ArrayList<>(path);
                longer.add(next);
                layOn(longer, line, digits, goal, freed, found);
            }
        }
    }

    int laid(int line, int digits, int many, int what) {
        if (!mayDial(line, digits, many) || what != 0 && what != 1) {
            return -1;
        }
        if (!layings(line, digitsOf(digits, many), -2, Set.of()).isEmpty()) {
            return what == 0 ? 0 : -1;
        }
        for (int m = 0; m < lines.size(); m++) {
            Line other = lines.get(m);
            if (other.condition == 1 && (other.state == 5 || other.state == 6) && other.digits.size() <= 5) {
                Set<Integer> freed = new HashSet<>(other.path);
                List<Set<Integer>> again = layings(m, other.digits, other.rings, freed);
                for (Set<Integer> fresh : layings(line, digitsOf(digits, many), -2, freed)) {
                    for (Set<Integer> moved : again) {
                        if (java.util.Collections.disjoint(fresh, moved)) {
                            return what == 0 ? 1 : m;
                        }
                    }
                }
            }
        }
        return -1;
    }

    /** Whether each of the wanting ones gets an end of its own: tried one after the other. */
    private static boolean served(List<Set<Integer>> wanting, int at, Set<Integer> used) {
        if (at == wanting.size()) {
            return true;
        }
        for (int end : wanting.get(at)) {
            if (used.add(end)) {
                if (served(wanting, at + 1, used)) {
                    return true;
                }
                used.remove(end);
            }
        }
        return false;
    }

    private int[] lostOfAll(int rack, int level, int k, int sharedMore) {
        Rack r = racks.get(rack);
        List<Set<Integer>> bySection = new ArrayList<>();
        for (int section = 0; section < r.sections; section++) {
            Set<Integer> ends = new TreeSet<>(ends(rack, section, level));
            ends.removeAll(out);
            for (int i = 0; i < sharedMore; i++) {
                ends.add(1000 + i);
            }
            bySection.add(ends);
        }
        int lost = 0;
        int all = 0;
        for (int choice = 0; choice < 1 << r.switches; choice++) {
            if (Integer.bitCount(choice) == k) {
                all++;
                List<Set<Integer>> wanting = new ArrayList<>();
                for (int s = 0; s < r.switches; s++) {
                    if ((choice >> s & 1) == 1) {
                        wanting.add(bySection.get(s % r.sections));
                    }
                }
                lost += served(wanting, 0, new HashSet<>()) ? 0 : 1;
            }
        }
        return new int[] {lost, all};
    }

    boolean mayLose(int rack, int level, int k) {
        return isRack(rack, 0) && level >= 0 && level <= 9 && k >= 1 && k <= racks.get(rack).switches;
    }

    int lost(int rack, int level, int k) {
        return mayLose(rack, level, k) ? lostOfAll(rack, level, k, 0)[0] : -1;
    }

    int more(int rack, int level, int k, int r) {
        if (!mayLose(rack, level, k) || r < 0 || r > 1000) {
            return -1;
        }
        int added = 0;
        int[] of = lostOfAll(rack, level, k, 0);
        while (of[0] * 1000 > r * of[1]) {
            of = lostOfAll(rack, level, k, ++added);
        }
        return added;
    }

    int test(int line, int digits, int many) {
        if (!mayDial(line, digits, many)) {
            return -1;
        }
        Model played = copy();
        int state = played.play(line, digits, many);
        if ((state == 2 || state == 5) && tests.size() < 60) {
            Set<Integer> met = new TreeSet<>(played.lines.get(line).path);
            met.removeIf(end -> end >= 100);
            tests.add(new Test(state == 2, met));
        }
        return state;
    }

    private boolean explains(List<Integer> set) {
        for (Test test : tests) {
            boolean has = set.stream().anyMatch(test.met::contains);
            if (has != test.failed) {
                return false;
            }
        }
        return true;
    }

    /** All explaining sets of the least size, in order; null if there are none of 3 or fewer. */
    List<List<Integer>> explanations() {
        List<Integer> all = new ArrayList<>();
        for (int s = 0; s < 96; s++) {
            if (isSwitch(s)) {
                all.add(s);
            }
        }
        List<List<Integer>> sets = List.of(List.of());
        for (int size = 0; size <= 3; size++) {
            List<List<Integer>> fit = new ArrayList<>();
            for (List<Integer> set : sets) {
                if (explains(set)) {
                    fit.add(set);
                }
            }
            if (!fit.isEmpty()) {
                return fit;
            }
            List<List<Integer>> larger = new ArrayList<>();
            for (List<Integer> set : sets) {
                for (int s : all) {
                    if (set.isEmpty() || s > set.get(set.size() - 1)) {
                        List<Integer> one = new ArrayList<>(set);
                        one.add(s);
                        larger.add(one);
                    }
                }
            }
            sets = larger;
        }
        return null;
    }

    int explain(int what) {
        if (what < 0 || what > 3) {
            return -1;
        }
        List<List<Integer>> fit = explanations();
        if (fit == null) {
            return -1;
        }
        List<Integer> first = fit.get(0);
        return what == 0 ? first.size() : what <= first.size() ? first.get(what - 1) : -1;
    }

    int sure(int which) {
        List<List<Integer>> fit = isSwitch(which) ? explanations() : null;
        return fit == null ? -1 : fit.stream().allMatch(set -> set.contains(which)) ? 1 : 0;
    }

    int forget() {
        int n = tests.size();
        tests.clear();
        return n;
    }

    int look(int line, int what) {
        if (line < 0 || line >= lines.size() || what < 0 || what > 5) {
            throw new NoSuchElementException();
        }
        Line l = lines.get(line);
        if (what > 0 && l.condition != 1) {
            return -1;
        }
        switch (what) {
            case 0: return l.condition;
            case 1: return l.state;
            case 2: return l.path.get(l.path.size() - 1);
            case 3: return l.rings;
            case 4: return l.digits.size();
            default: return l.answered;
        }
    }

    int path(int line, int i) {
        if (line < 0 || line >= lines.size() || i < 0 || i >= lines.get(line).path.size()) {
            return -1;
        }
        return lines.get(line).path.get(i);
    }

    int held(int end) {
        return held.getOrDefault(end, -1);
    }

    int book(int i, int what) {
        if (i < 0 || i >= book.size() || what < 0 || what > 3) {
            return -1;
        }
        Entry e = book.get(i);
        int units = e.units;
        for (Word w : words) {
            units = w.call == i ? w.units : units;
        }
        return new int[] {e.line, units, e.day, e.ended}[what];
    }

    int count(int what) {
        int calling = 0;
        for (Line line : lines) {
            calling += line.condition == 1 ? 1 : 0;
        }
        int heldSwitches = 0;
        for (int end : held.keySet()) {
            heldSwitches += end < 100 ? 1 : 0;
        }
        int switches = 0;
        for (Rack rack : racks) {
            switches += rack.switches;
        }
        int[] all = {now, racks.size(), lines.size(), calling, heldSwitches, book.size(), words.size(), tests.size(),
            tariff.lines.size(), tariff.names.size(), tape.length(), switches, held.size() - heldSwitches};
        return what >= 0 && what < all.length ? all[what] : -1;
    }
}
