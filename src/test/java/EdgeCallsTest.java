/**
 * The limits of "2. CALLS" and promises 9 to 12, 26 to 28 and 30: none free, DEAD, SILENT, digits that change nothing,
 * and what can be seen of a call.
 */
public final class EdgeCallsTest {
    private static final int NONE = TownExchange.NONE;

    public static void main(String[] args) {
        firstFree();
        noneFree();
        notQuiet();
        digits();
        places();
        lastSelector();
        noneOfTheOutlets();
        ownSwitchesAreHeld();
        longestPath();
        finals();
        finalsRingTheirOwn();
        whoIsBusy();
        junctions();
        furtherDigits();
        answered();
        ended();
        outWhileHeld();
        faultyWhileHeld();
        looks();
        looksOfOthers();
        paths();
        held();
        counts();
        refused();
        Due.finish("EdgeCallsTest");
    }

    private static TownExchange lines(int switches) {
        TownExchange x = new TownExchange();
        x.rack(0, switches, 1);
        x.rack(1, 8, 1);
        x.rack(0, 1, 1);
        for (int i = 0; i < 10; i++) {
            x.line(0, 1, i);
        }
        return x;
    }

    /** LIFTED: the first SWITCH of its home RACK that is free and not OUT: TONE, or SILENT if that is FAULTY. */
    private static void firstFree() {
        TownExchange x = lines(8);
        x.out(0, true);
        x.faulty(2, true);
        x.out(3, true);
        x.faulty(3, true);
        Due.is("behind what is out", x.lift(0), 0);
        Due.path("behind what is out", x, 0, 1);
        Due.is("what is faulty is not passed by", x.lift(1), 2);
        Due.path("what is faulty is not passed by", x, 1, 2);
        Due.is("what is out and faulty is", x.lift(2), 0);
        Due.path("what is out and faulty is", x, 2, 4);
        for (int line = 3; line < 6; line++) {
            Due.is("lift " + line, x.lift(line), 0);
            Due.path("to the last", x, line, line + 2);
        }
        Due.is("no more", x.lift(6), 7);
        x.out(0, false);
        Due.is("the first is not out now", x.lift(6), 0);
        Due.path("the first is not out now", x, 6, 0);
    }

    /** None: nothing is held, it stays QUIET. */
    private static void noneFree() {
        for (int switches = 1; switches <= 8; switches++) {
            TownExchange x = lines(switches);
            for (int line = 0; line < switches; line++) {
                Due.is("line " + line + " of " + switches, x.lift(line), 0);
                Due.path("line " + line + " of " + switches, x, line, line);
            }
            Due.is("all are held", x.lift(9), 7);
            Due.looks("all are held", x, 9, 0, NONE, NONE, NONE, NONE, NONE);
            Due.path("all are held", x, 9);
            Due.is("all are held", x.count(4), switches);
            Due.is("no digit then", x.dial(9, 1), NONE);
            Due.is("nothing to end", x.end(9), NONE);
            x.end(0);
            for (int i = 0; i < switches; i++) {
                x.out(i, true);
            }
            Due.is("one is free, but out", x.lift(9), 7);
            Due.is("still quiet", x.look(9, 0), 0);
            Due.is("another rack's are free", x.count(4), switches - 1);
        }
        Due.is("a faulty one is free", faultyAlone(), 2);
    }

    private static int faultyAlone() {
        TownExchange x = lines(1);
        x.faulty(0, true);
        return x.lift(0);
    }

    /** lift: NONE: no such LINE, not QUIET. */
    private static void notQuiet() {
        Due.range("lift", n -> lines(8).lift(n), 0, 9);
        TownExchange x = Due.small();
        x.lift(0);
        Due.is("calling", x.lift(0), NONE);
        Due.dialAll(x, 0, "411");
        Due.is("rung", x.lift(0), NONE);
        Due.is("called", x.lift(1), NONE);
        x.answer(0);
        Due.is("answered", x.lift(0), NONE);
        Due.is("spoken to", x.lift(1), NONE);
        x.end(0);
        Due.is("quiet again", x.lift(1), 0);
        Due.is("quiet again", x.lift(0), 0);
    }

    /** dial: digits 0 to 9 by a LINE that is CALLING, each a LEVEL of its own. */
    private static void digits() {
        Due.range("digit at a selector", n -> dialled("", n), 0, 9);
        Due.range("digit at a final", n -> dialled("4", n), 0, 9);
        Due.range("second digit at a final", n -> dialled("41", n), 0, 9);
        Due.range("digit at a junction", n -> dialled("9", n), 0, 9);
        Due.range("digit of a call that is rung", n -> dialled("411", n), 0, 9);
        Due.range("digit of a call that is busy", n -> dialled("410", n), 0, 9);
        Due.range("digit of a call that is dead", n -> dialled("5", n), 0, 9);
        Due.range("line that dials", n -> called(n), 0, 3);
        TownExchange x = lines(8);
        for (int level = 0; level < 10; level++) {
            x.outlet(0, 0, level, level % 4, 100 + level);
        }
        for (int level = 0; level < 8; level++) {
            Due.is("level " + level, Due.call(x, level, Integer.toString(9 - level)), 1);
            Due.path("level " + level, x, level, level, 109 - level);
        }
        x.end(0);
        Due.is("level 0", Due.call(x, 8, "0"), 1);
        Due.path("level 0", x, 8, 0, 100);
    }

    private static int dialled(String ahead, int digit) {
        TownExchange x = Due.small();
        Due.call(x, 0, ahead);
        return x.dial(0, digit);
    }

    private static int called(int line) {
        TownExchange x = Due.small();
        Due.is("not calling", x.dial(line, 4), NONE);
        x.lift(line);
        return x.dial(line, 4);
    }

    /** By places, the first whose END is free, not OUT (a JUNCTION is never) is held; SILENT if it is FAULTY. */
    private static void places() {
        TownExchange x = lines(8);
        x.outlet(0, 0, 0, 0, 8);
        x.outlet(0, 0, 0, 1, 15);
        x.outlet(0, 0, 0, 2, 100);
        x.outlet(0, 0, 0, 3, 9);
        Due.is("out 100", x.out(100, true), false);
        int[] ends = {8, 15, 100, 9};
        for (int line = 0; line < 4; line++) {
            Due.is("place " + line, Due.call(x, line, "0"), 1);
            Due.path("place " + line, x, line, line, ends[line]);
        }
        Due.is("all are held", Due.call(x, 4, "0"), 3);
        Due.path("nothing more is held", x, 4, 4);
        x.end(2);
        x.end(1);
        x.out(15, true);
        Due.is("the second is out", Due.call(x, 5, "0"), 1);
        Due.path("the second is out", x, 5, 1, 100);
        x.out(15, false);
        x.faulty(15, true);
        x.end(3);
        Due.is("the second is faulty, the fourth is not", Due.call(x, 6, "0"), 2);
        Due.path("it is held", x, 6, 2, 15);
        x.outlet(0, 0, 0, 0, NONE);
        x.outlet(0, 0, 0, 1, NONE);
        x.outlet(0, 0, 0, 2, NONE);
        Due.is("the last place alone", Due.call(x, 7, "0"), 1);
        Due.path("the last place alone", x, 7, 3, 9);
    }

    private static int stateOf(int... ends) {
        TownExchange x = lines(8);
        x.rack(1, 1, 1);
        x.outlet(0, 0, 1, 0, 8);
        x.outlet(0, 0, 1, 1, 100);
        Due.call(x, 8, "1");
        Due.call(x, 9, "1");
        x.out(24, true);
        for (int place = 0; place < ends.length; place++) {
            x.outlet(0, 0, 2, place, ends[place]);
        }
        int state = Due.call(x, 0, "2");
        if (state == 3 || state == 4) {
            Due.path("none is held", x, 0, 2);
            Due.is("head", x.look(0, 2), 2);
        }
        return state;
    }

    /** Of the last rack that there can be, each SWITCH to the 95th steps by the OUTLETS of its SECTION. */
    private static void lastSelector() {
        TownExchange x = new TownExchange();
        for (int rack = 0; rack < 11; rack++) {
            x.rack(rack == 10 ? 1 : 0, 8, 1);
        }
        x.rack(0, 8, 2);
        for (int section = 0; section < 2; section++) {
            x.outlet(11, section, 0, 3, 86 + section);
            x.outlet(11, section, 9, 3, 114 + section);
        }
        x.line(11, 10, 0);
        for (int which = 88; which < 96; which++) {
            int section = which % 2;
            Due.is("by " + which, x.lift(0), 0);
            Due.is("lowest LEVEL", x.dial(0, 0), 1);
            Due.path("lowest LEVEL by " + which, x, 0, which, 86 + section);
            x.end(0);
            x.lift(0);
            Due.is("highest LEVEL", x.dial(0, 9), 1);
            Due.path("highest LEVEL by " + which, x, 0, which, 114 + section);
            x.end(0);
            Due.is("laid", x.laid(0, 9000, 4, 0), 0);
            x.out(which, true);
        }
        Due.is("all are out", x.lift(0), 7);
        Due.is("none can be laid", x.laid(0, 9000, 4, 0), NONE);
    }

    /** None: BUSY, or DEAD if none of them leads anywhere. 8 and 100 are held, 24 is out. */
    private static void noneOfTheOutlets() {
        Due.is("none leads anywhere", stateOf(), 4);
        Due.is("one is held", stateOf(8), 3);
        Due.is("the last one is held", stateOf(NONE, NONE, NONE, 8), 3);
        Due.is("a junction is held", stateOf(NONE, 100), 3);
        Due.is("one is out", stateOf(24), 3);
        Due.is("all are held or out", stateOf(8, 24, 100, 8), 3);
        Due.is("the last one is free", stateOf(8, 24, 100, 9), 1);
        Due.is("none any more", stateOf(NONE, NONE, NONE, NONE), 4);
    }

    /** A SWITCH that the call itself holds is not free. */
    private static void ownSwitchesAreHeld() {
        TownExchange x = lines(2);
        x.outlet(0, 0, 1, 0, 16);
        x.outlet(2, 0, 1, 0, 0);
        x.outlet(2, 0, 2, 0, 0);
        x.outlet(2, 0, 2, 1, 1);
        Due.is("its own", Due.call(x, 0, "11"), 3);
        Due.path("its own", x, 0, 0, 16);
        x.end(0);
        Due.is("the other", Due.call(x, 0, "12"), 1);
        Due.path("the other", x, 0, 0, 16, 1);
        Due.is("and no more", x.dial(0, 1), 3);
    }

    /** Eleven racks of eight selectors in a ring, and a final: a call that holds them all. */
    private static void longestPath() {
        TownExchange x = new TownExchange();
        for (int rack = 0; rack < 11; rack++) {
            x.rack(0, 8, 1);
        }
        x.rack(1, 1, 1);
        for (int rack = 0; rack < 11; rack++) {
            for (int i = 0; i < 8; i++) {
                x.outlet(rack, 0, i / 4, i % 4, (rack + 1) % 11 * 8 + i);
            }
        }
        x.outlet(10, 0, 2, 0, 88);
        x.outlet(10, 0, 2, 1, 115);
        x.line(0, 11, 0);
        x.line(0, 11, 1);
        int[] held = new int[89];
        x.lift(0);
        for (int hop = 1; hop < 88; hop++) {
            held[hop] = hop % 11 * 8 + hop / 11;
            Due.is("hop " + hop, x.dial(0, hop / 11 / 4), 1);
        }
        held[88] = 88;
        Due.is("nothing is free", x.lift(1), 7);
        Due.is("the final", x.dial(0, 2), 1);
        Due.path("all", x, 0, held);
        Due.is("all are held", x.count(4), 89);
        Due.is("rung", Due.dialAll(x, 0, "01"), 5);
        Due.is("digits", x.look(0, 4), 90);
        x.end(0);
        Due.is("all are free", x.count(4), 0);
    }

    private static TownExchange twoFinals() {
        TownExchange x = new TownExchange();
        x.rack(0, 8, 1);
        x.rack(1, 2, 1);
        x.rack(1, 2, 1);
        x.outlet(0, 0, 1, 0, 8);
        x.outlet(0, 0, 1, 1, 9);
        x.outlet(0, 0, 2, 0, 16);
        x.outlet(0, 0, 2, 1, 17);
        int[] numbers = {0, 9, 10, 90, 99};
        for (int number : numbers) {
            x.line(0, 1, number);
        }
        x.line(0, 2, 9);
        x.line(0, 2, 55);
        return x;
    }

    /** By the second digit (10 * first + second) the LINE with that NUMBER in that RACK is RUNG; no such LINE: DEAD. */
    private static void finals() {
        String[] there = {"00", "09", "10", "90", "99"};
        for (int line = 0; line < there.length; line++) {
            TownExchange x = twoFinals();
            Due.is("first digit", Due.call(x, 6, "1" + there[line].charAt(0)), 1);
            Due.is("none is called yet", x.look(line, 0), 0);
            Due.is("second digit", x.dial(6, there[line].charAt(1) - '0'), 5);
            Due.looks("rings " + line, x, 6, 1, 5, 8, line, 3, NONE);
            Due.is("is called", x.look(line, 0), 2);
        }
        String[] away = {"01", "91", "11", "98", "55", "89"};
        for (String number : away) {
            TownExchange x = twoFinals();
            Due.is("no line " + number, Due.call(x, 6, "1" + number), 4);
            Due.looks("no line " + number, x, 6, 1, 4, 8, NONE, 3, NONE);
        }
    }

    private static void finalsRingTheirOwn() {
        TownExchange x = twoFinals();
        Due.is("09 in rack 2", Due.call(x, 6, "209"), 5);
        Due.is("09 in rack 2", x.look(6, 3), 5);
        Due.is("09 in rack 1", Due.call(x, 4, "109"), 5);
        Due.is("09 in rack 1", x.look(4, 3), 1);
        Due.is("00 in rack 2", Due.call(x, 0, "200"), 4);
        x.line(0, 2, 0);
        Due.is("it is dead once dead", x.dial(0, 0), 4);
        x.end(0);
        Due.is("00 in rack 2, now", Due.call(x, 0, "200"), 5);
        Due.is("00 in rack 2, now", x.look(0, 3), 7);
    }

    /** RUNG if it is QUIET, else BUSY: CALLING, CALLED, spoken to, the caller itself. */
    private static void whoIsBusy() {
        TownExchange x = twoFinals();
        Due.is("itself", Due.call(x, 0, "100"), 3);
        Due.looks("itself", x, 0, 1, 3, 8, NONE, 3, NONE);
        x.end(0);
        x.lift(1);
        Due.is("calling", Due.call(x, 0, "109"), 3);
        x.end(0);
        Due.dialAll(x, 1, "255");
        Due.is("called", Due.call(x, 0, "255"), 3);
        Due.looks("called", x, 6, 2);
        x.answer(1);
        x.end(0);
        Due.is("spoken to", Due.call(x, 0, "255"), 3);
        x.end(1);
        Due.is("quiet by now, but busy stays", x.dial(0, 5), 3);
        x.end(0);
        Due.is("quiet", Due.call(x, 0, "255"), 5);
        for (int i = 1; i < 8; i++) {
            x.out(i, true);
        }
        Due.is("nothing is free for it", x.lift(4), 7);
        x.end(0);
        Due.is("so it can be rung", Due.call(x, 0, "199"), 5);
    }

    /** With a JUNCTION: two digits GO ON, by the third it is RUNG elsewhere. */
    private static void junctions() {
        TownExchange x = Due.small();
        int[] states = {0, 1, 1, 1, 5, 5, 5};
        Due.is("lift", x.lift(0), states[0]);
        for (int i = 1; i < states.length; i++) {
            Due.is("digit " + i, x.dial(0, i == 1 ? 9 : 0), states[i]);
            Due.looks("digit " + i, x, 0, 1, states[i], 100, NONE, Math.min(i, 4), NONE);
        }
        Due.is("nobody is called", x.look(1, 0) + x.look(2, 0) + x.look(3, 0), 0);
    }

    private static void nothingChanges(String what, TownExchange x, int line) {
        int[] seen = new int[6];
        for (int i = 0; i < 6; i++) {
            seen[i] = x.look(line, i);
        }
        int switches = x.count(4);
        int junctions = x.count(12);
        for (int digit = 0; digit < 10; digit++) {
            Due.is(what + ": digit " + digit, x.dial(line, digit), seen[1]);
        }
        Due.looks(what, x, line, seen);
        Due.is(what + ": switches", x.count(4), switches);
        Due.is(what + ": junctions", x.count(12), junctions);
        Due.is(what + ": only itself", x.look(1, 0), seen[3] == 1 ? 2 : 0);
    }

    /** SILENT, BUSY, DEAD, RUNG, ANSWERED: further digits change nothing. */
    private static void furtherDigits() {
        TownExchange x = Due.small();
        Due.is("dead", Due.call(x, 0, "5"), 4);
        nothingChanges("dead at a selector", x, 0);
        x.end(0);
        Due.is("dead", Due.call(x, 0, "477"), 4);
        nothingChanges("dead at a final", x, 0);
        x.end(0);
        Due.is("busy", Due.call(x, 0, "410"), 3);
        nothingChanges("busy at a final", x, 0);
        Due.call(x, 2, "4");
        Due.is("busy", Due.call(x, 3, "4"), 3);
        x.end(0);
        x.end(2);
        nothingChanges("busy at a selector, free again", x, 3);
        x.end(3);
        x.faulty(0, true);
        Due.is("silent", x.lift(0), 2);
        nothingChanges("silent at once", x, 0);
        x.faulty(0, false);
        nothingChanges("silent, sound by now", x, 0);
        x.end(0);
        x.faulty(8, true);
        Due.is("silent", Due.call(x, 0, "4"), 2);
        nothingChanges("silent at a final", x, 0);
        x.end(0);
        x.faulty(8, false);
        Due.is("rung", Due.call(x, 0, "411"), 5);
        nothingChanges("rung", x, 0);
        x.answer(0);
        nothingChanges("answered", x, 0);
        x.end(0);
        Due.is("rung", Due.call(x, 0, "9123"), 5);
        nothingChanges("rung elsewhere", x, 0);
        x.answer(0);
        nothingChanges("answered elsewhere", x, 0);
    }

    private static boolean answers(String digits) {
        TownExchange x = Due.small();
        x.out(9, true);
        x.faulty(8, true);
        Due.call(x, 0, digits);
        return x.answer(0);
    }

    /** answer: the call of a CALLING LINE; false: none such, not RUNG. */
    private static void answered() {
        Due.is("tone", answers(""), false);
        Due.is("silent", answers("4"), false);
        Due.is("dead", answers("5"), false);
        Due.is("goes on", answers("9"), false);
        Due.is("goes on", answers("912"), false);
        Due.is("rung elsewhere", answers("9123"), true);
        TownExchange x = Due.small();
        Due.is("quiet", x.answer(0), false);
        Due.call(x, 0, "41");
        Due.is("goes on at a final", x.answer(0), false);
        x.dial(0, 0);
        Due.is("busy", x.answer(0), false);
        x.end(0);
        Due.call(x, 0, "411");
        Due.is("the called one", x.answer(1), false);
        Due.is("line -1", x.answer(-1), false);
        Due.is("line 4", x.answer(4), false);
        x.seconds(9);
        Due.is("rung", x.answer(0), true);
        Due.looks("answered", x, 0, 1, 6, 8, 1, 3, 9);
        x.seconds(9);
        Due.is("answered", x.answer(0), false);
        Due.looks("still answered at", x, 0, 1, 6, 8, 1, 3, 9);
        Due.yes("line", n -> rungBy(n), 0, 3);
    }

    private static boolean rungBy(int line) {
        TownExchange x = Due.small();
        Due.call(x, line, "9000");
        return x.answer(line);
    }

    private static void endOf(String what, int line, String digits, boolean answered) {
        TownExchange x = Due.small();
        x.out(9, true);
        x.faulty(3, true);
        Due.tariff(x, "unit 7 each 60 when 1;");
        Due.call(x, line, digits);
        Due.is(what + ": answered", x.answer(line), answered);
        x.seconds(61);
        Due.is(what + ": ends", x.end(line), answered ? 14 : 0);
        Due.is(what + ": in the book", x.count(5), answered ? 1 : 0);
        for (int i = 0; i < 4; i++) {
            Due.looks(what + ": all are quiet", x, i, 0, NONE, NONE, NONE, NONE, NONE);
        }
        Due.path(what, x, line);
        Due.is(what + ": switches", x.count(4), 0);
        Due.is(what + ": junctions", x.count(12), 0);
        Due.is(what + ": calling", x.count(3), 0);
        Due.is(what + ": nobody holds", x.held(0) + x.held(8) + x.held(100), 3 * NONE);
        Due.is(what + ": ends once", x.end(line), NONE);
    }

    /** ENDED: all that it holds is free, both LINES are QUIET. UNITS (0 if it was not ANSWERED). */
    private static void ended() {
        endOf("tone", 0, "", false);
        endOf("goes on", 0, "4", false);
        endOf("goes on", 0, "41", false);
        endOf("busy", 0, "410", false);
        endOf("dead", 0, "477", false);
        endOf("rung", 0, "411", true);
        endOf("over a junction", 2, "9000", true);
        endOf("goes on over a junction", 3, "900", false);
        Due.range("line that ends", n -> {
            TownExchange x = Due.small();
            x.lift(n);
            return x.end(n);
        }, 0, 3);
        TownExchange x = Due.small();
        Due.is("quiet", x.end(0), NONE);
        Due.call(x, 0, "411");
        Due.is("the called one can't", x.end(1), NONE);
        Due.is("still called", x.look(1, 0), 2);
        x.answer(0);
        Due.is("nor spoken to", x.end(1), NONE);
        Due.is("still answered", x.look(0, 1), 6);
        Due.is("ended, with no tariff", x.end(0), 0);
        Due.is("rung", Due.call(x, 0, "411"), 5);
        Due.is("rung only", x.end(0), 0);
        Due.is("in the book is one", x.count(5), 1);
        Due.is("both lift", x.lift(1) + x.lift(0), 0);
    }

    /** OUT (whether held or not: what is held stays so). */
    private static void outWhileHeld() {
        TownExchange x = Due.small();
        x.lift(0);
        x.out(0, true);
        Due.path("out while held", x, 0, 0);
        Due.is("tone", x.look(0, 1), 0);
        Due.is("goes on", x.dial(0, 4), 1);
        x.out(8, true);
        Due.path("out while held", x, 0, 0, 8);
        Due.is("goes on", x.dial(0, 1), 1);
        Due.is("rung", x.dial(0, 1), 5);
        x.end(0);
        Due.is("lifts the next", x.lift(0), 0);
        Due.path("out and free", x, 0, 1);
        x.out(0, false);
        x.out(8, false);
        Due.is("goes on", x.dial(0, 4), 1);
        Due.path("not out any more", x, 0, 1, 8);
        x.lift(2);
        Due.path("not out any more", x, 2, 0);
    }

    /** FAULTY (told of a SWITCH that is held: as it is met next time). */
    private static void faultyWhileHeld() {
        TownExchange x = Due.small();
        x.lift(0);
        x.faulty(0, true);
        Due.is("still tone", x.look(0, 1), 0);
        Due.is("goes on", x.dial(0, 4), 1);
        x.faulty(8, true);
        Due.is("still goes on", x.look(0, 1), 1);
        Due.is("goes on", x.dial(0, 1), 1);
        Due.is("rung", x.dial(0, 1), 5);
        Due.is("answered", x.answer(0), true);
        x.end(0);
        Due.is("met next time", x.lift(0), 2);
        x.faulty(0, false);
        Due.is("silent stays", x.look(0, 1), 2);
        x.end(0);
        Due.is("met next time", x.lift(0), 0);
        Due.is("met next time", x.dial(0, 4), 2);
        x.faulty(8, false);
        Due.is("silent stays", x.dial(0, 1), 2);
        x.end(0);
        Due.is("sound", Due.call(x, 0, "411"), 5);
    }

    /** look of a CALLING LINE in each STATE: digits count up to RUNG, BUSY, SILENT or DEAD. */
    private static void looks() {
        TownExchange x = Due.small();
        x.lift(0);
        Due.looks("tone", x, 0, 1, 0, 0, NONE, 0, NONE);
        x.dial(0, 4);
        Due.looks("goes on", x, 0, 1, 1, 8, NONE, 1, NONE);
        x.dial(0, 1);
        Due.looks("goes on", x, 0, 1, 1, 8, NONE, 2, NONE);
        x.dial(0, 1);
        Due.looks("rung", x, 0, 1, 5, 8, 1, 3, NONE);
        x.answer(0);
        Due.looks("answered at 0", x, 0, 1, 6, 8, 1, 3, 0);
        x.end(0);
        Due.call(x, 0, "4107");
        Due.looks("busy", x, 0, 1, 3, 8, NONE, 3, NONE);
        x.end(0);
        Due.call(x, 0, "57");
        Due.looks("dead", x, 0, 1, 4, 0, NONE, 1, NONE);
        x.end(0);
        x.faulty(8, true);
        Due.call(x, 0, "4117");
        Due.looks("silent", x, 0, 1, 2, 8, NONE, 1, NONE);
        x.end(0);
        x.faulty(0, true);
        Due.call(x, 0, "411");
        Due.looks("silent at once", x, 0, 1, 2, 0, NONE, 0, NONE);
        x.end(0);
        x.faulty(0, false);
        Due.call(x, 0, "90007");
        Due.looks("over a junction", x, 0, 1, 5, 100, NONE, 4, NONE);
    }

    /** look: 1 to 5: NONE if it is not CALLING; NoSuchElementException: none such. */
    private static void looksOfOthers() {
        TownExchange x = Due.small();
        Due.looks("quiet", x, 3, 0, NONE, NONE, NONE, NONE, NONE);
        Due.call(x, 0, "413");
        x.seconds(5);
        x.answer(0);
        Due.looks("called", x, 3, 2, NONE, NONE, NONE, NONE, NONE);
        int[] lines = {-1, 4, 40, Integer.MIN_VALUE, Integer.MAX_VALUE};
        for (int line : lines) {
            for (int what = -1; what <= 6; what++) {
                Due.lookThrows("look(" + line + ", " + what + ")", x, line, what);
            }
        }
        int[] whats = {-1, 6, Integer.MIN_VALUE, Integer.MAX_VALUE};
        for (int what : whats) {
            for (int line = 0; line < 4; line++) {
                Due.lookThrows("look(" + line + ", " + what + ")", x, line, what);
            }
        }
    }

    /** path: the i-th that a LINE holds, in order; NONE: none such. */
    private static void paths() {
        TownExchange x = Due.small();
        Due.call(x, 2, "9");
        Due.range("path of two", i -> x.path(2, i), 0, 1);
        Due.path("in order", x, 2, 0, 100);
        Due.is("quiet", x.path(0, 0), NONE);
        x.lift(0);
        Due.range("path of one", i -> x.path(0, i), 0, 0);
        Due.range("line", n -> x.path(n, 0), 0, 0);
        Due.is("line -1", x.path(-1, 0), NONE);
        Due.is("line 4", x.path(4, 0), NONE);
        x.end(2);
        Due.is("ended", x.path(2, 0), NONE);
        Due.call(x, 0, "411");
        Due.is("called", x.path(1, 0), NONE);
    }

    /** held: of a SWITCH or a JUNCTION (100 + number); NONE: none, none such. */
    private static void held() {
        TownExchange x = new TownExchange();
        for (int i = 0; i < 11; i++) {
            x.rack(0, 1, 1);
        }
        x.rack(1, 8, 1);
        x.outlet(0, 0, 0, 0, 95);
        x.outlet(1, 0, 0, 0, 115);
        x.outlet(2, 0, 0, 0, 100);
        x.line(0, 11, 0);
        x.line(1, 11, 1);
        x.line(2, 11, 2);
        Due.is("free", x.held(0), NONE);
        Due.is("free", x.held(95), NONE);
        Due.is("free", x.held(115), NONE);
        for (int line = 0; line < 3; line++) {
            Due.call(x, line, "0");
        }
        int[] ends = {0, 8, 16, 95, 115, 100};
        int[] lines = {0, 1, 2, 0, 1, 2};
        for (int i = 0; i < ends.length; i++) {
            Due.is("held " + ends[i], x.held(ends[i]), lines[i]);
        }
        int[] none = {-1, 1, 7, 94, 96, 99, 101, 114, 116, Integer.MIN_VALUE, Integer.MAX_VALUE};
        for (int end : none) {
            Due.is("held " + end, x.held(end), NONE);
        }
        x.end(1);
        Due.is("free again", x.held(8) + x.held(115), 2 * NONE);
    }

    /** count: 3 CALLING LINES, 4 SWITCHES and 12 JUNCTIONS that are held, 11 SWITCHES; NONE for another what. */
    private static void counts() {
        Due.range("count", n -> Due.small().count(n), 0, 12);
        TownExchange x = Due.small();
        int[][] steps = {{0, 0, 0}, {1, 1, 0}, {1, 2, 0}, {1, 2, 0}, {1, 2, 0}, {2, 3, 0}, {2, 3, 1}, {1, 1, 1},
            {0, 0, 0}};
        for (int i = 0; i < steps.length; i++) {
            switch (i) {
                case 1: x.lift(0); break;
                case 2: x.dial(0, 4); break;
                case 3: x.dial(0, 1); break;
                case 4: x.dial(0, 1); break;
                case 5: x.lift(2); break;
                case 6: x.dial(2, 9); break;
                case 7: x.end(0); break;
                case 8: x.end(2); break;
                default: break;
            }
            Due.is("calling after " + i, x.count(3), steps[i][0]);
            Due.is("switches held after " + i, x.count(4), steps[i][1]);
            Due.is("junctions held after " + i, x.count(12), steps[i][2]);
            Due.is("switches after " + i, x.count(11), 6);
        }
        TownExchange full = new TownExchange();
        full.rack(0, 8, 2);
        full.rack(0, 8, 2);
        full.rack(1, 1, 1);
        for (int place = 0; place < 4; place++) {
            for (int i = 0; i < 4; i++) {
                full.outlet(i / 2, i % 2, 0, place, 100 + 4 * i + place);
            }
        }
        for (int line = 0; line < 16; line++) {
            full.line(line / 8, 2, line);
            Due.is("junction for " + line, Due.call(full, line, "0"), 1);
        }
        Due.is("all calling", full.count(3), 16);
        Due.is("all but the final are held", full.count(4), 16);
        Due.is("all junctions are held", full.count(12), 16);
        Due.is("switches", full.count(11), 17);
    }

    /** What is refused has changed nothing. */
    private static void refused() {
        Refused town = new Refused(Refused::town);
        town.none("lift(-1)", x -> x.lift(-1));
        town.none("lift(9)", x -> x.lift(9));
        town.none("lift, answered", x -> x.lift(0));
        town.none("lift, spoken to", x -> x.lift(1));
        town.none("lift, rung", x -> x.lift(2));
        town.none("lift, tone", x -> x.lift(3));
        town.none("dial 10", x -> x.dial(3, 10));
        town.none("dial -1", x -> x.dial(6, -1));
        town.none("dial, quiet", x -> x.dial(5, 4));
        town.none("dial, spoken to", x -> x.dial(1, 4));
        town.none("dial(9)", x -> x.dial(9, 4));
        town.is("dial, dead", x -> x.dial(4, 4), 4);
        town.is("dial, silent", x -> x.dial(8, 4), 2);
        town.is("dial, rung", x -> x.dial(2, 9), 5);
        town.is("dial, answered", x -> x.dial(0, 4), 6);
        town.no("answer, tone", x -> x.answer(3));
        town.no("answer, goes on", x -> x.answer(6));
        town.no("answer, dead", x -> x.answer(4));
        town.no("answer, silent", x -> x.answer(8));
        town.no("answer, answered", x -> x.answer(0));
        town.no("answer, spoken to", x -> x.answer(1));
        town.no("answer, quiet", x -> x.answer(5));
        town.no("answer(9)", x -> x.answer(9));
        town.none("end, quiet", x -> x.end(5));
        town.none("end, spoken to", x -> x.end(1));
        town.none("end(9)", x -> x.end(9));
        town.none("end(-1)", x -> x.end(-1));
        town.lookThrows("look(9, 0)", 9, 0);
        town.lookThrows("look(0, 6)", 0, 6);
        town.none("count(13)", x -> x.count(13));
        Refused full = new Refused(() -> {
            TownExchange x = Refused.town();
            x.out(6, true);
            x.out(7, true);
            return x;
        });
        full.is("lift, none is free", x -> x.lift(5), 7);
    }
}
