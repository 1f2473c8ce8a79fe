import java.util.Arrays;
import java.util.NoSuchElementException;

/**
 * A step-by-step telephone exchange of a town: racks of switches, lines, junctions, calls, their tariff and book,
 * and what can be told of calls that are not made yet. DOC.md says what each call answers.
 */
public final class TownExchange {
    public static final int NONE = -1;

    private static final int LAST_SECOND = 999999;
    private static final int LONGEST_WAIT = 100000;
    private static final int HOUR_SECONDS = 3600;
    private static final int DAY_SECONDS = 86400;
    private static final int LAST_DAY = LAST_SECOND / DAY_SECONDS;

    private static final int SELECTORS = 0;
    private static final int FINALS = 1;
    private static final int MOST_RACKS = 12;
    private static final int MOST_SWITCHES = 8;
    private static final int ALL_SWITCHES = MOST_RACKS * MOST_SWITCHES;
    private static final int MOST_SECTIONS = 2;
    private static final int LEVELS = 10;
    private static final int PLACES = 4;
    private static final int FIRST_JUNCTION = 100;
    private static final int JUNCTIONS = 16;
    private static final int ALL_ENDS = FIRST_JUNCTION + JUNCTIONS;
    private static final int MOST_LINES = 40;
    private static final int NUMBERS = 100;
    private static final int FINAL_DIGITS = 2;
    private static final int JUNCTION_DIGITS = 3;

    private static final int QUIET = 0;
    private static final int CALLING = 1;
    private static final int CALLED = 2;

    private static final int TONE = 0;
    private static final int GOES_ON = 1;
    private static final int SILENT = 2;
    private static final int BUSY = 3;
    private static final int DEAD = 4;
    private static final int RUNG = 5;
    private static final int ANSWERED = 6;
    private static final int NOTHING_FREE = 7;

    private static final int MOST_DIGITS = 5;
    private static final int LARGEST_DIGITS = 99999;

    private final Plant plant = new Plant();
    private final Calls calls = new Calls(plant);
    private final Relay relay = new Relay(plant, calls);
    private final Loss loss = new Loss(plant);
    private final Trouble trouble = new Trouble(plant);
    private final Ledger ledger = new Ledger();
    private final Tape tape = new Tape();
    private Tariff tariff = new Tariff(tape);
    private Tariff spareTariff = new Tariff(tape);
    private int now;

    public TownExchange() {
        now = 0;
    }

    public int seconds(int n) {
        if (n < 0 || n > LONGEST_WAIT || n > LAST_SECOND - now) {
            return NONE;
        }
        now += n;
        return now;
    }

    public int rack(int kind, int switches, int sections) {
        return plant.addRack(kind, switches, sections);
    }

    public boolean outlet(int rack, int section, int level, int place, int end) {
        return plant.lead(rack, section, level, place, end);
    }

    public boolean zone(int junction, int z) {
        return plant.tellZone(junction, z);
    }

    public int line(int home, int last, int number) {
        return calls.addLine(home, last, number);
    }

    public boolean out(int which, boolean yes) {
        if (!plant.isSwitch(which)) {
            return false;
        }
        plant.out[which] = yes;
        return true;
    }

    public boolean faulty(int which, boolean yes) {
        if (!plant.isSwitch(which)) {
            return false;
        }
        plant.faulty[which] = yes;
        return true;
    }

    public int lift(int line) {
        return calls.isQuiet(line) ? calls.take(calls.lines[line]) : NONE;
    }

    public int dial(int line, int digit) {
        if (!calls.isCalling(line) || digit < 0 || digit >= LEVELS) {
            return NONE;
        }
        return calls.step(calls.lines[line], digit);
    }

    public boolean answer(int line) {
        if (!calls.isCalling(line) || calls.lines[line].state != RUNG) {
            return false;
        }
        calls.lines[line].state = ANSWERED;
        calls.lines[line].answeredAt = now;
        return true;
    }

    public int end(int line) {
        if (!calls.isCalling(line)) {
            return NONE;
        }
        Line caller = calls.lines[line];
        int units = 0;
        if (caller.state == ANSWERED) {
            units = tariff.unitsOf(caller.answeredAt, now, plant.zoneOf(caller.head()), line);
            ledger.write(line, units, caller.answeredAt / DAY_SECONDS, today());
        }
        calls.release(caller);
        return units;
    }

    public int feed(long a, long b, long c) {
        tape.addSigns(a);
        tape.addSigns(b);
        tape.addSigns(c);
        return tape.size;
    }

    public int tariff() {
        int fault = spareTariff.readTape();
        tape.size = 0;
        if (fault == 0) {
            Tariff read = spareTariff;
            spareTariff = tariff;
            tariff = read;
        }
        return fault;
    }

    public boolean word(int call, int units) {
        return ledger.tell(call, units, today());
    }

    public int bill(int line, int from, int to, int t) {
        boolean days = from >= 0 && from <= to && to <= LAST_DAY && t >= 0 && t <= today();
        return days && calls.isLine(line) ? ledger.sum(line, from, to, t) : NONE;
    }

    public int would(int line, int digits, int many) {
        if (!mayDial(line, digits, many)) {
            return NONE;
        }
        int state = calls.make(calls.lines[line], digits, many);
        calls.release(calls.lines[line]);
        return state;
    }

    public int block(int a, int digitsA, int manyA, int b, int digitsB, int manyB) {
        if (a == b || !mayDial(a, digitsA, manyA) || !mayDial(b, digitsB, manyB)) {
            return NONE;
        }
        if (would(a, digitsA, manyA) != RUNG || would(b, digitsB, manyB) != RUNG) {
            return NONE;
        }
        return (blocksNext(a, digitsA, manyA, b, digitsB, manyB) ? 1 : 0)
                + (blocksNext(b, digitsB, manyB, a, digitsA, manyA) ? 2 : 0);
    }

    public int laid(int line, int digits, int many, int what) {
        if (!mayDial(line, digits, many) || what < 0 || what > 1) {
            return NONE;
        }
        int fewest = relay.fewestMoved(line, digits, many);
        return what == 0 ? fewest : relay.movedLine;
    }

    public int lost(int rack, int level, int k) {
        return loss.measure(rack, level, k) ? loss.waysLost(k, 0) : NONE;
    }

    public int more(int rack, int level, int k, int r) {
        if (r < 0 || r > Loss.WHOLE) {
            return NONE;
        }
        return loss.measure(rack, level, k) ? loss.sharedMore(k, r) : NONE;
    }

    public int test(int line, int digits, int many) {
        if (!mayDial(line, digits, many)) {
            return NONE;
        }
        Line caller = calls.lines[line];
        int state = calls.make(caller, digits, many);
        if (state == SILENT || state == RUNG) {
            trouble.note(caller, state == SILENT);
        }
        calls.release(caller);
        return state;
    }

    public int explain(int what) {
        if (what < 0 || what > Trouble.LARGEST_SET) {
            return NONE;
        }
        int fewest = trouble.fewest();
        if (what == 0) {
            return fewest;
        }
        return what <= fewest ? trouble.best[what - 1] : NONE;
    }

    public int sure(int which) {
        if (!plant.isSwitch(which) || trouble.fewest() == NONE) {
            return NONE;
        }
        return trouble.isInAllSets(which) ? 1 : 0;
    }

    public int forget() {
        int tests = trouble.tests;
        trouble.tests = 0;
        return tests;
    }

    public int look(int line, int what) throws NoSuchElementException {
        if (!calls.isLine(line) || what < 0 || what > 5) {
            throw new NoSuchElementException("no such line, or nothing such to look at");
        }
        Line seen = calls.lines[line];
        if (what == 0) {
            return seen.condition;
        }
        return seen.condition == CALLING ? seen.ofCall(what) : NONE;
    }

    public int path(int line, int i) {
        if (!calls.isLine(line) || i < 0 || i >= calls.lines[line].held) {
            return NONE;
        }
        return calls.lines[line].holds[i];
    }

    public int held(int end) {
        return plant.isEnd(end) ? plant.holders[end] : NONE;
    }

    public int book(int i, int what) {
        return ledger.show(i, what);
    }

    public int count(int what) {
        switch (what) {
            case 0: return now;
            case 1: return plant.racks;
            case 2: return calls.size;
            case 3: return calls.callingLines();
            case 4: return plant.heldWithin(0, ALL_SWITCHES);
            case 5: return ledger.size;
            case 6: return ledger.words;
            case 7: return trouble.tests;
            case 8: return tariff.lines;
            case 9: return tariff.names;
            case 10: return tape.size;
            case 11: return plant.allSwitches();
            case 12: return plant.heldWithin(FIRST_JUNCTION, ALL_ENDS);
            default: return NONE;
        }
    }

    private int today() {
        return now / DAY_SECONDS;
    }

    private boolean mayDial(int line, int digits, int many) {
        return calls.isQuiet(line) && digits >= 0 && digits <= LARGEST_DIGITS && many >= 1 && many <= MOST_DIGITS;
    }

    private boolean blocksNext(int first, int digits, int many, int next, int nextDigits, int nextMany) {
        calls.make(calls.lines[first], digits, many);
        boolean through = calls.isQuiet(next) && would(next, nextDigits, nextMany) == RUNG;
        calls.release(calls.lines[first]);
        return !through;
    }

    private static int digitAt(int digits, int many, int i) {
        int upToThis = digits;
        for (int behind = i + 1; behind < many; behind++) {
            upToThis /= 10;
        }
        return upToThis % 10;
    }

    /** Racks with their switches and outlets, and the junctions; ends are named as in the document. */
    static final class Plant {
        private int racks;
        private final int[] kinds = new int[MOST_RACKS];
        private final int[] switches = new int[MOST_RACKS];
        private final int[] sections = new int[MOST_RACKS];
        private final int[] outlets = new int[MOST_RACKS * MOST_SECTIONS * LEVELS * PLACES];
        private final boolean[] out = new boolean[ALL_SWITCHES];
        private final boolean[] faulty = new boolean[ALL_SWITCHES];
        private final int[] holders = new int[ALL_ENDS];
        private final int[] zones = new int[JUNCTIONS];

        Plant() {
            Arrays.fill(outlets, NONE);
            Arrays.fill(holders, NONE);
            Arrays.fill(zones, 1);
        }

        int addRack(int kind, int count, int parts) {
            int mostParts = kind == SELECTORS ? MOST_SECTIONS : kind == FINALS ? 1 : 0;
            if (parts < 1 || parts > mostParts || count < 1 || count > MOST_SWITCHES || racks == MOST_RACKS) {
                return NONE;
            }
            kinds[racks] = kind;
            switches[racks] = count;
            sections[racks] = parts;
            racks++;
            return racks - 1;
        }

        boolean lead(int rack, int section, int level, int place, int end) {
            if (!isLevel(rack, level) || section < 0 || section >= sections[rack] || place < 0 || place >= PLACES) {
                return false;
            }
            boolean elsewhere = isEnd(end) && end / MOST_SWITCHES != rack;
            if (end != NONE && !elsewhere) {
                return false;
            }
            outlets[spot(rack, section, level) + place] = end;
            return true;
        }

        boolean tellZone(int junction, int z) {
            if (junction < 0 || junction >= JUNCTIONS || z < 1 || z > 9) {
                return false;
            }
            zones[junction] = z;
            return true;
        }

        boolean isRackOf(int kind, int rack) {
            return rack >= 0 && rack < racks && kinds[rack] == kind;
        }

        boolean isLevel(int rack, int level) {
            return isRackOf(SELECTORS, rack) && level >= 0 && level < LEVELS;
        }

        boolean isSwitch(int which) {
            boolean inRack = which >= 0 && which < racks * MOST_SWITCHES;
            return inRack && which % MOST_SWITCHES < switches[which / MOST_SWITCHES];
        }

        boolean isEnd(int end) {
            return isSwitch(end) || isJunction(end);
        }

        boolean isJunction(int end) {
            return end >= FIRST_JUNCTION && end < ALL_ENDS;
        }

        boolean isFinal(int end) {
            return end >= 0 && end < ALL_SWITCHES && kinds[end / MOST_SWITCHES] == FINALS;
        }

        int zoneOf(int end) {
            return isJunction(end) ? zones[end - FIRST_JUNCTION] : 0;
        }

        /** Where the first outlet of a section and level stands; the other places follow it. */
        private static int spot(int rack, int section, int level) {
            return ((rack * MOST_SECTIONS + section) * LEVELS + level) * PLACES;
        }

        int leadsTo(int rack, int section, int level, int place) {
            return outlets[spot(rack, section, level) + place];
        }

        int leadsFrom(int selector, int level, int place) {
            if (selector < 0 || selector >= ALL_SWITCHES || level < 0 || level >= LEVELS) {
                return NONE;
            }
            return outlets[spot(selector / MOST_SWITCHES, sectionOf(selector), level) + place];
        }

        /** A name is eight times the rack and the number, so it is as even or odd as the number. */
        int sectionOf(int selector) {
            return sections[selector / MOST_SWITCHES] == MOST_SECTIONS ? selector % MOST_SECTIONS : 0;
        }

        boolean isOut(int end) {
            return end >= 0 && end < ALL_SWITCHES && out[end];
        }

        boolean isFaulty(int end) {
            return end >= 0 && end < ALL_SWITCHES && faulty[end];
        }

        /** Of NONE, or an END that there is. */
        boolean canTake(int end) {
            return end >= 0 && end < ALL_ENDS && holders[end] == NONE && !isOut(end);
        }

        int heldWithin(int from, int beyond) {
            int sum = 0;
            for (int end = from; end < beyond; end++) {
                sum += holders[end] == NONE ? 0 : 1;
            }
            return sum;
        }

        int allSwitches() {
            int sum = 0;
            for (int rack = 0; rack < racks; rack++) {
                sum += switches[rack];
            }
            return sum;
        }
    }

    /** A line with the call that it makes. */
    static final class Line {
        private final int index;
        private final int home;
        private int condition = QUIET;
        private int state;
        // No END is held twice, and behind a junction nothing more is held.
        private final int[] holds = new int[ALL_SWITCHES + 1];
        private int held;
        private int taken;
        private final int[] digits = new int[MOST_DIGITS];
        private int atHead;
        private int numberAtHead;
        private int partner = NONE;
        private int answeredAt = NONE;

        Line(int index, int home) {
            this.index = index;
            this.home = home;
        }

        int head() {
            return held > 0 ? holds[held - 1] : NONE;
        }

        int ofCall(int what) {
            switch (what) {
                case 1: return state;
                case 2: return head();
                case 3: return partner;
                case 4: return taken;
                case 5: return answeredAt;
                default: return NONE;
            }
        }

        void noteDigit(int digit) {
            if (taken < MOST_DIGITS) {
                digits[taken] = digit;
            }
            taken++;
            atHead++;
            numberAtHead = numberAtHead * 10 + digit;
        }

        void addHeld(int end) {
            if (held < holds.length) {
                holds[held] = end;
                held++;
            }
            atHead = 0;
            numberAtHead = 0;
        }

        void clear() {
            condition = QUIET;
            held = 0;
            taken = 0;
            partner = NONE;
            answeredAt = NONE;
        }
    }

    /** The lines, and how their calls are set up and taken down. */
    static final class Calls {
        private final Plant plant;
        private final Line[] lines = new Line[MOST_LINES];
        private final int[] numbered = new int[MOST_RACKS * NUMBERS];
        private int size;

        Calls(Plant plant) {
            this.plant = plant;
            Arrays.fill(numbered, NONE);
        }

        int addLine(int home, int last, int number) {
            if (!plant.isRackOf(SELECTORS, home) || !plant.isRackOf(FINALS, last) || size == MOST_LINES) {
                return NONE;
            }
            if (number < 0 || number >= NUMBERS || numbered[last * NUMBERS + number] != NONE) {
                return NONE;
            }
            lines[size] = new Line(size, home);
            numbered[last * NUMBERS + number] = size;
            size++;
            return size - 1;
        }

        boolean isLine(int line) {
            return line >= 0 && line < size;
        }

        boolean isQuiet(int line) {
            return line >= 0 && line < size && lines[line].condition == QUIET;
        }

        boolean isCalling(int line) {
            return line >= 0 && line < size && lines[line].condition == CALLING;
        }

        int callingLines() {
            int sum = 0;
            for (int line = 0; line < size; line++) {
                sum += isCalling(line) ? 1 : 0;
            }
            return sum;
        }

        int lineAt(int finalSwitch, int number) {
            boolean known = finalSwitch >= 0 && finalSwitch < ALL_SWITCHES && number >= 0 && number < NUMBERS;
            return known ? numbered[finalSwitch / MOST_SWITCHES * NUMBERS + number] : NONE;
        }

        /** The QUIET line is lifted. */
        int take(Line line) {
            int first = line.home * MOST_SWITCHES;
            for (int which = first; which < first + plant.switches[line.home]; which++) {
                if (plant.canTake(which)) {
                    line.condition = CALLING;
                    hold(line, which, TONE);
                    return line.state;
                }
            }
            return NOTHING_FREE;
        }

        /** The CALLING line dials a digit. */
        int step(Line line, int digit) {
            if (line.state != TONE && line.state != GOES_ON) {
                return line.state;
            }
            line.noteDigit(digit);
            int head = line.head();
            if (plant.isJunction(head)) {
                line.state = line.atHead < JUNCTION_DIGITS ? GOES_ON : RUNG;
            } else if (plant.isFinal(head)) {
                stepFinal(line, head);
            } else {
                hunt(line, head, digit);
            }
            return line.state;
        }

        private void stepFinal(Line line, int head) {
            if (line.atHead < FINAL_DIGITS) {
                line.state = GOES_ON;
                return;
            }
            int wanted = lineAt(head, line.numberAtHead);
            if (isQuiet(wanted)) {
                line.state = RUNG;
                line.partner = wanted;
                lines[wanted].condition = CALLED;
            } else {
                line.state = wanted == NONE ? DEAD : BUSY;
            }
        }

        private void hunt(Line line, int head, int digit) {
            boolean leads = false;
            for (int place = 0; place < PLACES; place++) {
                int end = plant.leadsFrom(head, digit, place);
                if (plant.canTake(end)) {
                    hold(line, end, GOES_ON);
                    return;
                }
                leads = leads || end != NONE;
            }
            line.state = leads ? BUSY : DEAD;
        }

        private void hold(Line line, int end, int stateIfSound) {
            plant.holders[end] = line.index;
            line.addHeld(end);
            line.state = plant.isFaulty(end) ? SILENT : stateIfSound;
        }

        /** Lifts a QUIET line and dials: who asks only what would happen releases it again, and nothing is changed. */
        int make(Line line, int digits, int many) {
            int state = take(line);
            for (int i = 0; i < many && state != NOTHING_FREE; i++) {
                state = step(line, digitAt(digits, many, i));
            }
            return state;
        }

        void release(Line line) {
            if (line.condition != CALLING) {
                return;
            }
            setHolder(line, NONE);
            if (isLine(line.partner)) {
                lines[line.partner].condition = QUIET;
            }
            line.clear();
        }

        void setHolder(Line line, int holder) {
            for (int i = 0; i < line.held; i++) {
                plant.holders[line.holds[i]] = holder;
            }
        }
    }

    /** A call that is to be laid: from a home rack by its digits to a goal. */
    static final class Wish {
        // A goal is a line, or one of these two.
        private static final int OVER_JUNCTION = -1;
        private static final int WHATEVER_RINGS = -2;

        private int line;
        private int home;
        private int goal;
        private int many;
        private final int[] digits = new int[MOST_DIGITS];

        void toRing(Line from, int number, int length) {
            line = from.index;
            home = from.home;
            goal = WHATEVER_RINGS;
            many = Math.min(length, MOST_DIGITS);
            for (int i = 0; i < many; i++) {
                digits[i] = digitAt(number, length, i);
            }
        }

        void again(Line from) {
            line = from.index;
            home = from.home;
            goal = from.partner == NONE ? OVER_JUNCTION : from.partner;
            many = Math.min(from.taken, MOST_DIGITS);
            System.arraycopy(from.digits, 0, digits, 0, many);
        }

        boolean ringsOverJunction(int at) {
            return many - at >= JUNCTION_DIGITS && goal < 0;
        }

        boolean ringsAtFinal(Calls calls, int finalSwitch, int at) {
            if (many - at < FINAL_DIGITS) {
                return false;
            }
            int met = calls.lineAt(finalSwitch, digits[at] * 10 + digits[at + 1]);
            return goal == WHATEVER_RINGS ? met != line && calls.isQuiet(met) : met != NONE && met == goal;
        }
    }

    /** Lays a call over free switches, if need be together with one call that is laid anew. */
    static final class Relay {
        private final Plant plant;
        private final Calls calls;
        private final Wish wanted = new Wish();
        private final Wish moved = new Wish();
        private boolean together;
        private int movedLine = NONE;

        Relay(Plant plant, Calls calls) {
            this.plant = plant;
            this.calls = calls;
        }

        int fewestMoved(int line, int digits, int many) {
            wanted.toRing(calls.lines[line], digits, many);
            movedLine = NONE;
            together = false;
            if (canLay(wanted)) {
                return 0;
            }
            for (int other = 0; other < calls.size && movedLine == NONE; other++) {
                if (canMove(calls.lines[other]) && laysBoth(calls.lines[other])) {
                    movedLine = other;
                }
            }
            return movedLine == NONE ? NONE : 1;
        }

        private static boolean canMove(Line line) {
            boolean through = line.state == RUNG || line.state == ANSWERED;
            return line.condition == CALLING && through && line.taken <= MOST_DIGITS;
        }

        private boolean laysBoth(Line other) {
            moved.again(other);
            calls.setHolder(other, NONE);
            // Most calls are not in the way at all, and looking for the new one alone is far cheaper than for both.
            together = false;
            boolean both = canLay(wanted);
            if (both) {
                together = true;
                both = canLay(wanted);
            }
            calls.setHolder(other, other.index);
            return both;
        }

        private boolean canLay(Wish wish) {
            int first = wish.home * MOST_SWITCHES;
            for (int which = first; which < first + plant.switches[wish.home]; which++) {
                if (layOver(wish, which, 0)) {
                    return true;
                }
            }
            return false;
        }

        /** at counts the digits that are used up: it goes up at each level and never beyond the wish's digits. */
        private boolean layOver(Wish wish, int end, int at) {
            if (!plant.canTake(end) || plant.isFaulty(end)) {
                return false;
            }
            plant.holders[end] = wish.line;
            boolean laid = goesOn(wish, end, at);
            plant.holders[end] = NONE;
            return laid;
        }

        private boolean goesOn(Wish wish, int end, int at) {
            if (plant.isJunction(end)) {
                return wish.ringsOverJunction(at) && restIsLaid(wish);
            }
            if (plant.isFinal(end)) {
                return wish.ringsAtFinal(calls, end, at) && restIsLaid(wish);
            }
            if (at >= wish.many) {
                return false;
            }
            for (int place = 0; place < PLACES; place++) {
                if (layOver(wish, plant.leadsFrom(end, wish.digits[at], place), at + 1)) {
                    return true;
                }
            }
            return false;
        }

        private boolean restIsLaid(Wish wish) {
            return !together || wish == moved || canLay(moved);
        }
    }

    /** What gets lost if several switches of a rack want an end of one level at once. */
    static final class Loss {
        private static final int WHOLE = 1000;

        private final Plant plant;
        private final int[] own = new int[MOST_SECTIONS];
        private final int[] wanting = new int[MOST_SECTIONS];
        private int shared;

        Loss(Plant plant) {
            this.plant = plant;
        }

        /** Counts the ends of a level; false if there is no such level, or no k switches. */
        boolean measure(int rack, int level, int k) {
            if (!plant.isLevel(rack, level) || k < 1 || k > plant.switches[rack]) {
                return false;
            }
            shared = 0;
            for (int section = 0; section < MOST_SECTIONS; section++) {
                own[section] = 0;
                wanting[section] = 0;
                for (int place = 0; place < PLACES; place++) {
                    countEnd(rack, section, level, place);
                }
            }
            for (int number = 0; number < plant.switches[rack]; number++) {
                wanting[plant.sectionOf(rack * MOST_SWITCHES + number)]++;
            }
            return true;
        }

        private void countEnd(int rack, int section, int level, int place) {
            int end = plant.leadsTo(rack, section, level, place);
            if (end == NONE || plant.isOut(end) || leadsWithin(rack, section, level, place, end)) {
                return;
            }
            if (!leadsWithin(rack, 1 - section, level, PLACES, end)) {
                own[section]++;
            } else if (section == 0) {
                shared++;
            }
        }

        private boolean leadsWithin(int rack, int section, int level, int places, int end) {
            for (int place = 0; place < places; place++) {
                if (plant.leadsTo(rack, section, level, place) == end) {
                    return true;
                }
            }
            return false;
        }

        int waysLost(int k, int sharedMore) {
            int sum = 0;
            for (int first = 0; first <= k; first++) {
                int second = k - first;
                int overflow = Math.max(0, first - own[0]) + Math.max(0, second - own[1]);
                if (overflow > shared + sharedMore) {
                    sum += ways(wanting[0], first) * ways(wanting[1], second);
                }
            }
            return sum;
        }

        int sharedMore(int k, int r) {
            int all = ways(wanting[0] + wanting[1], k);
            int added = 0;
            // With k more ends each of k switches has one, and nothing is lost.
            while (added < k && waysLost(k, added) * WHOLE > r * all) {
                added++;
            }
            return added;
        }

        /** One of them is chosen or is not; a rack's few switches keep this low. */
        private static int ways(int of, int chosen) {
            if (chosen == 0) {
                return 1;
            }
            return of <= 0 ? 0 : ways(of - 1, chosen - 1) + ways(of - 1, chosen);
        }
    }

    /** Tests that failed or passed, and the smallest sets of switches that explain them. */
    static final class Trouble {
        private static final int MOST_TESTS = 60;
        private static final int LARGEST_SET = 3;
        // A test holds a switch as it is lifted, and one more at most with each digit.
        private static final int MOST_MET = MOST_DIGITS + 1;

        private final Plant plant;
        private int tests;
        private final int[] met = new int[MOST_TESTS * MOST_MET];
        private final int[] metSize = new int[MOST_TESTS];
        private final boolean[] failed = new boolean[MOST_TESTS];
        private final boolean[] sound = new boolean[ALL_SWITCHES];
        private final int[] chosen = new int[LARGEST_SET];
        private final int[] sorted = new int[LARGEST_SET];
        private final int[] best = new int[LARGEST_SET];
        private int found;
        private final int[] foundWith = new int[ALL_SWITCHES];

        Trouble(Plant plant) {
            this.plant = plant;
        }

        void note(Line line, boolean fails) {
            if (tests == MOST_TESTS) {
                return;
            }
            int size = 0;
            for (int i = 0; i < line.held && size < MOST_MET; i++) {
                if (plant.isSwitch(line.holds[i])) {
                    met[tests * MOST_MET + size] = line.holds[i];
                    size++;
                }
            }
            metSize[tests] = size;
            failed[tests] = fails;
            tests++;
        }

        /** The size of the smallest sets, NONE if they are too large; best and the found sets are set by it. */
        int fewest() {
            found = 0;
            Arrays.fill(foundWith, 0);
            markSound();
            for (int size = 0; size <= LARGEST_SET; size++) {
                choose(0, size);
                if (found > 0) {
                    return size;
                }
            }
            return NONE;
        }

        boolean isInAllSets(int which) {
            return found > 0 && foundWith[which] == found;
        }

        private void markSound() {
            for (int which = 0; which < ALL_SWITCHES; which++) {
                sound[which] = false;
            }
            for (int test = 0; test < tests; test++) {
                for (int i = 0; i < metSize[test] && !failed[test]; i++) {
                    sound[met[test * MOST_MET + i]] = true;
                }
            }
        }

        /** Every set has a switch of the first test that the chosen ones leave unexplained, so only these are tried. */
        private void choose(int had, int size) {
            int test = firstUnexplained(had);
            if (test == NONE) {
                addSet(had);
                return;
            }
            for (int i = 0; i < metSize[test] && had < size; i++) {
                int which = met[test * MOST_MET + i];
                if (!sound[which]) {
                    chosen[had] = which;
                    choose(had + 1, size);
                }
            }
        }

        private int firstUnexplained(int had) {
            for (int test = 0; test < tests; test++) {
                if (failed[test] && !isExplained(test, had)) {
                    return test;
                }
            }
            return NONE;
        }

        private boolean isExplained(int test, int had) {
            for (int i = 0; i < metSize[test]; i++) {
                for (int j = 0; j < had; j++) {
                    if (met[test * MOST_MET + i] == chosen[j]) {
                        return true;
                    }
                }
            }
            return false;
        }

        /** A set may come in more than one order; each time it counts for all of its switches alike. */
        private void addSet(int size) {
            for (int i = 0; i < size; i++) {
                foundWith[chosen[i]]++;
                int to = i;
                while (to > 0 && sorted[to - 1] > chosen[i]) {
                    sorted[to] = sorted[to - 1];
                    to--;
                }
                sorted[to] = chosen[i];
            }
            if (found == 0 || comesFirst(size)) {
                System.arraycopy(sorted, 0, best, 0, size);
            }
            found++;
        }

        private boolean comesFirst(int size) {
            for (int i = 0; i < size; i++) {
                if (sorted[i] != best[i]) {
                    return sorted[i] < best[i];
                }
            }
            return false;
        }
    }

    /** The book of calls and the later words on them: each tells from when on it was known. */
    static final class Ledger {
        private static final int MOST_CALLS = 200;
        private static final int MOST_WORDS = 200;
        private static final int LARGEST_WORD = 9999;

        private int size;
        private final int[] callers = new int[MOST_CALLS];
        private final int[] units = new int[MOST_CALLS];
        private final int[] days = new int[MOST_CALLS];
        private final int[] ended = new int[MOST_CALLS];
        private int words;
        private final int[] wordCalls = new int[MOST_WORDS];
        private final int[] wordUnits = new int[MOST_WORDS];
        private final int[] wordDays = new int[MOST_WORDS];

        void write(int caller, int sum, int day, int endDay) {
            if (size == MOST_CALLS) {
                return;
            }
            callers[size] = caller;
            units[size] = sum;
            days[size] = day;
            ended[size] = endDay;
            size++;
        }

        boolean tell(int call, int sum, int day) {
            if (call < 0 || call >= size || sum < 0 || sum > LARGEST_WORD || words == MOST_WORDS) {
                return false;
            }
            wordCalls[words] = call;
            wordUnits[words] = sum;
            wordDays[words] = day;
            words++;
            return true;
        }

        int sum(int caller, int from, int to, int known) {
            int sum = 0;
            for (int call = 0; call < size; call++) {
                if (callers[call] == caller && days[call] >= from && days[call] <= to && ended[call] <= known) {
                    sum += unitsKnown(call, known);
                }
            }
            return sum;
        }

        private int unitsKnown(int call, int known) {
            for (int i = words - 1; i >= 0; i--) {
                if (wordCalls[i] == call && wordDays[i] <= known) {
                    return wordUnits[i];
                }
            }
            return units[call];
        }

        int show(int call, int what) {
            if (call < 0 || call >= size) {
                return NONE;
            }
            switch (what) {
                case 0: return callers[call];
                case 1: return unitsKnown(call, LAST_DAY);
                case 2: return days[call];
                case 3: return ended[call];
                default: return NONE;
            }
        }
    }

    /** The words that a NAME of a tariff can't be; the first six are values that an expression can use. */
    enum Word {
        ZONE("zone", 0), HOUR("hour", 1), DAY("day", 2), LASTED("lasted", 3), UNITS("units", 4), LINE("line", 5),
        LET("let", NONE), UNIT("unit", NONE), EACH("each", NONE), WHEN("when", NONE),
        AND("and", NONE), OR("or", NONE), NOT("not", NONE);

        private static final Word[] ALL = values();

        private final String text;
        private final int value;

        Word(String text, int value) {
            this.text = text;
            this.value = value;
        }
    }

    /** The signs that were fed, and the token that is read of them now. */
    static final class Tape {
        private static final int MOST_SIGNS = 1000;
        private static final int LONGEST_WORD = 8;
        private static final int LONGEST_NUMBER = 4;
        private static final String SIGNS = "()<=+-*;";

        private static final int AT_END = 0;
        private static final int A_WORD = 1;
        private static final int A_NUMBER = 2;
        private static final int A_SIGN = 3;
        private static final int NO_TOKEN = 4;

        private final char[] signs = new char[MOST_SIGNS];
        private int size;
        private int kind;
        private int place;
        private int length;
        // null if the token is a NAME, or no word.
        private Word word;

        void addSigns(long eight) {
            for (int shift = 56; shift >= 0; shift -= 8) {
                int sign = (int) (eight >>> shift & 255);
                boolean known = sign == 10 || sign >= 32 && sign <= 126;
                if (known && size < MOST_SIGNS) {
                    signs[size] = (char) sign;
                    size++;
                }
            }
        }

        void rewind() {
            place = 0;
            length = 0;
            next();
        }

        void next() {
            place += length;
            while (place < size && (signs[place] == ' ' || signs[place] == 10)) {
                place++;
            }
            int letters = runFrom(place, 'a', 'z');
            int figures = runFrom(place, '0', '9');
            length = Math.max(1, letters + figures);
            word = letters > 0 && letters <= LONGEST_WORD ? wordRead() : null;
            if (place >= size) {
                kind = AT_END;
                length = 0;
            } else if (letters > 0) {
                kind = letters <= LONGEST_WORD ? A_WORD : NO_TOKEN;
            } else if (figures > 0) {
                kind = figures <= LONGEST_NUMBER ? A_NUMBER : NO_TOKEN;
            } else {
                kind = SIGNS.indexOf(signs[place]) >= 0 ? A_SIGN : NO_TOKEN;
            }
        }

        private int runFrom(int start, char least, char most) {
            int to = start;
            while (to < size && signs[to] >= least && signs[to] <= most) {
                to++;
            }
            return to - start;
        }

        boolean isAtEnd() {
            return kind == AT_END;
        }

        boolean isNumber() {
            return kind == A_NUMBER;
        }

        boolean isSign(char sign) {
            return kind == A_SIGN && signs[place] == sign;
        }

        boolean isWord(Word which) {
            return word == which;
        }

        boolean isName() {
            return kind == A_WORD && word == null;
        }

        /** The value that the word stands for in every expression, or NONE. */
        int value() {
            return word == null ? NONE : word.value;
        }

        private Word wordRead() {
            for (Word candidate : Word.ALL) {
                int same = 0;
                int most = Math.min(length, candidate.text.length());
                while (same < most && signs[place + same] == candidate.text.charAt(same)) {
                    same++;
                }
                if (same == length && same == candidate.text.length()) {
                    return candidate;
                }
            }
            return null;
        }

        int number() {
            int number = 0;
            for (int i = 0; i < length; i++) {
                number = number * 10 + (signs[place + i] - '0');
            }
            return number;
        }

        /** A word as one number: its eight letters at most have five bits each. */
        long letters() {
            long letters = 0;
            for (int i = 0; i < length; i++) {
                letters = letters * 32 + (signs[place + i] - 'a' + 1);
            }
            return letters;
        }
    }

    /** A tariff as it was read, and how it counts the units of a call. */
    static final class Tariff {
        private static final int MOST_LINES_TOLD = 16;
        private static final int MOST_NAMES = 6;
        private static final int DEEPEST = 5;
        private static final int STEP_WITHOUT_UNIT = 60;

        private static final int CANT_STAND = 1;
        private static final int NOT_TOLD = 2;
        private static final int TOLD_AGAIN = 3;
        private static final int WRONG_NUMBER = 4;
        private static final int TOO_MANY = 5;

        // The code of an expression, operands ahead of their operation: a number, or one of these.
        private static final int VALUE = 10000;
        private static final int NAME = 20000;
        private static final int NOT = 30000;
        private static final int AND = 30001;
        private static final int OR = 30002;
        private static final int LESS = 30003;
        private static final int SAME = 30004;
        private static final int PLUS = 30005;
        private static final int MINUS = 30006;
        private static final int TIMES = 30007;

        private static final int COMPARING = 1;
        private static final int PARTS = 4;

        private final Tape tape;
        private int fault;
        private int lines;
        // A line that tells a NAME has NONE here.
        private final int[] lineUnits = new int[MOST_LINES_TOLD];
        private final int[] lineEach = new int[MOST_LINES_TOLD];
        private final int[] codeBeyond = new int[MOST_LINES_TOLD];
        // Each token makes one number at most.
        private final int[] code = new int[Tape.MOST_SIGNS];
        private int codeSize;
        private int names;
        private final long[] nameLetters = new long[MOST_NAMES];
        private final int[] nameValues = new int[MOST_NAMES];
        private final int[] values = new int[6];
        // Each of the four kinds of operation waits with one operand at most within each bracket.
        private final int[] stack = new int[PARTS * (DEEPEST + 1) + 1];

        Tariff(Tape tape) {
            this.tape = tape;
        }

        /** 0, or the fault; then this tariff is not to be used. */
        int readTape() {
            fault = 0;
            lines = 0;
            names = 0;
            codeSize = 0;
            tape.rewind();
            boolean right = true;
            for (int i = 0; i <= MOST_LINES_TOLD && right && !tape.isAtEnd(); i++) {
                boolean tells = tape.isWord(Word.LET);
                right = passFirst() && (tells ? readLet() : readUnit());
                if (right) {
                    codeBeyond[lines] = codeSize;
                    lines++;
                }
            }
            return fault;
        }

        private boolean passFirst() {
            if (!tape.isWord(Word.LET) && !tape.isWord(Word.UNIT)) {
                return fail(CANT_STAND);
            }
            if (lines == MOST_LINES_TOLD) {
                return fail(TOO_MANY);
            }
            tape.next();
            return true;
        }

        private boolean readLet() {
            if (!tape.isName()) {
                return fail(CANT_STAND);
            }
            long letters = tape.letters();
            if (slotOf(letters) != NONE) {
                return fail(TOLD_AGAIN);
            }
            if (names == MOST_NAMES) {
                return fail(TOO_MANY);
            }
            tape.next();
            lineUnits[lines] = NONE;
            if (!passSign('=') || !readOperations(0, 0) || !passSign(';')) {
                return false;
            }
            // Only now: a NAME can't be used in its own line.
            nameLetters[names] = letters;
            names++;
            return true;
        }

        private boolean readUnit() {
            if (!isNumberWithin(0, 99)) {
                return false;
            }
            lineUnits[lines] = tape.number();
            tape.next();
            if (!passWord(Word.EACH) || !isNumberWithin(30, 9999)) {
                return false;
            }
            lineEach[lines] = tape.number();
            tape.next();
            return passWord(Word.WHEN) && readOperations(0, 0) && passSign(';');
        }

        private boolean fail(int kind) {
            fault = kind + 16 * tape.place;
            return false;
        }

        private boolean passSign(char sign) {
            if (!tape.isSign(sign)) {
                return fail(CANT_STAND);
            }
            tape.next();
            return true;
        }

        private boolean passWord(Word word) {
            if (!tape.isWord(word)) {
                return fail(CANT_STAND);
            }
            tape.next();
            return true;
        }

        private boolean isNumberWithin(int least, int most) {
            if (!tape.isNumber()) {
                return fail(CANT_STAND);
            }
            return tape.number() >= least && tape.number() <= most || fail(WRONG_NUMBER);
        }

        private int slotOf(long letters) {
            for (int i = 0; i < names; i++) {
                if (nameLetters[i] == letters) {
                    return i;
                }
            }
            return NONE;
        }

        /** rank 0 to 3 is E, TEST, SUM, TERM: each joins what the next rank reads; within counts not and ( ). */
        private boolean readOperations(int rank, int within) {
            if (rank >= PARTS) {
                return readPart(within);
            }
            if (!readOperations(rank + 1, within)) {
                return false;
            }
            int most = rank == COMPARING ? 1 : Tape.MOST_SIGNS;
            int operation = operationAt(rank);
            for (int i = 0; i < most && operation != NONE; i++) {
                tape.next();
                if (!readOperations(rank + 1, within)) {
                    return false;
                }
                put(operation);
                operation = operationAt(rank);
            }
            return true;
        }

        private int operationAt(int rank) {
            switch (rank) {
                case 0: return tape.isWord(Word.AND) ? AND : tape.isWord(Word.OR) ? OR : NONE;
                case 1: return tape.isSign('<') ? LESS : tape.isSign('=') ? SAME : NONE;
                case 2: return tape.isSign('+') ? PLUS : tape.isSign('-') ? MINUS : NONE;
                default: return tape.isSign('*') ? TIMES : NONE;
            }
        }

        private boolean readPart(int within) {
            int value = tape.value();
            boolean named = tape.isName();
            boolean not = tape.isWord(Word.NOT);
            boolean opens = tape.isSign('(');
            if (!named && !not && !opens && value == NONE && !tape.isNumber()) {
                return fail(CANT_STAND);
            }
            int slot = named ? slotOf(tape.letters()) : NONE;
            if (named && slot == NONE) {
                return fail(NOT_TOLD);
            }
            if (within >= DEEPEST) {
                return fail(TOO_MANY);
            }
            if (not || opens) {
                return readWithin(not, within + 1);
            }
            put(named ? NAME + slot : value != NONE ? VALUE + value : tape.number());
            tape.next();
            return true;
        }

        private boolean readWithin(boolean not, int within) {
            tape.next();
            if (!not) {
                return readOperations(0, within) && passSign(')');
            }
            if (!readPart(within)) {
                return false;
            }
            put(NOT);
            return true;
        }

        private void put(int item) {
            if (codeSize < code.length) {
                code[codeSize] = item;
                codeSize++;
            }
        }

        int unitsOf(int start, int stop, int zone, int line) {
            values[Word.ZONE.value] = zone;
            values[Word.LINE.value] = line;
            int sum = 0;
            int t = start;
            for (int i = 0; i <= LAST_SECOND && t < stop; i++) {
                values[Word.HOUR.value] = t / HOUR_SECONDS % 24;
                values[Word.DAY.value] = t / DAY_SECONDS % 7;
                values[Word.LASTED.value] = t - start;
                values[Word.UNITS.value] = sum;
                int met = firstMet();
                sum += met == NONE ? 0 : lineUnits[met];
                t += met == NONE ? STEP_WITHOUT_UNIT : lineEach[met];
            }
            return sum;
        }

        /** The first unit line whose expression is not 0, or NONE; the NAMES are reckoned on the way. */
        private int firstMet() {
            int from = 0;
            int told = 0;
            for (int i = 0; i < lines; i++) {
                int result = resultOf(from, codeBeyond[i]);
                from = codeBeyond[i];
                if (lineUnits[i] != NONE && result != 0) {
                    return i;
                }
                if (lineUnits[i] == NONE && told < MOST_NAMES) {
                    nameValues[told] = result;
                    told++;
                }
            }
            return NONE;
        }

        private int resultOf(int from, int beyond) {
            int depth = 0;
            for (int i = from; i < beyond; i++) {
                int item = code[i];
                if (item < NOT && depth < stack.length) {
                    stack[depth] = operand(item);
                    depth++;
                } else if (item == NOT && depth >= 1) {
                    stack[depth - 1] = stack[depth - 1] == 0 ? 1 : 0;
                } else if (item > NOT && depth >= 2) {
                    depth--;
                    stack[depth - 1] = joined(item, stack[depth - 1], stack[depth]);
                }
            }
            return stack[0];
        }

        private int operand(int item) {
            if (item >= NAME) {
                return nameValues[item - NAME];
            }
            return item >= VALUE ? values[item - VALUE] : item;
        }

        private static int joined(int operation, int a, int b) {
            switch (operation) {
                case AND: return a != 0 && b != 0 ? 1 : 0;
                case OR: return a != 0 || b != 0 ? 1 : 0;
                case LESS: return a < b ? 1 : 0;
                case SAME: return a == b ? 1 : 0;
                case PLUS: return a + b;
                case MINUS: return a - b;
                default: return a * b;
            }
        }
    }
}
