/** The limits of "6. FAULTS": 60 TESTS, 3 SWITCHES at most, THE SET, and what is SURE: promises 22 to 25. */
public final class EdgeFaultsTest {
    private static final int NONE = TownExchange.NONE;

    public static void main(String[] args) {
        ranges();
        notQuiet();
        whatIsNoted();
        sixtyTests();
        sixtyTestsOfSixSwitches();
        nothingIsHeldByIt();
        whatRanges();
        noneFailed();
        noughtToFour();
        noneThatPassed();
        junctionsExplainNothing();
        asItWasNoted();
        leastFirst();
        thenTheSecond();
        thenTheThird();
        metTheOtherWayRound();
        sureInAll();
        sureRanges();
        forgotten();
        refused();
        Due.finish("EdgeFaultsTest");
    }

    /**
     * Selectors 0, 8 and 16, each a rack of its own, with a line each; at the levels 0 to 7 the finals 24 to 31, at
     * level 8 from 8 to 16, at level 9 the junctions 100 to 102. Each line can ring the next: numbers 10 to 12.
     */
    private static TownExchange three() {
        TownExchange x = new TownExchange();
        x.rack(0, 1, 1);
        x.rack(0, 1, 1);
        x.rack(0, 1, 1);
        x.rack(1, 8, 1);
        for (int rack = 0; rack < 3; rack++) {
            for (int level = 0; level < 8; level++) {
                x.outlet(rack, 0, level, 0, 24 + level);
            }
            x.outlet(rack, 0, 9, 0, 100 + rack);
            x.line(rack, 3, 10 + rack);
        }
        x.outlet(1, 0, 8, 0, 16);
        x.line(0, 3, 13);
        return x;
    }

    private static TownExchange threeFaulty(int... finals) {
        TownExchange x = three();
        for (int f : finals) {
            x.faulty(f, true);
        }
        return x;
    }

    private static void set(String what, TownExchange x, int... set) {
        Due.is(what + ": fewest", x.explain(0), set.length);
        for (int i = 1; i <= 3; i++) {
            Due.is(what + ": the set, " + i, x.explain(i), i <= set.length ? set[i - 1] : NONE);
        }
    }

    private static void noSet(String what, TownExchange x) {
        for (int i = 0; i <= 3; i++) {
            Due.is(what + ": explain " + i, x.explain(i), NONE);
        }
        Due.is(what + ": sure", x.sure(0), NONE);
    }

    private static void sure(String what, TownExchange x, int... sure) {
        for (int which = 0; which < 32; which++) {
            boolean there = which % 8 == 0 || which >= 24;
            int in = 0;
            for (int s : sure) {
                in += s == which ? 1 : 0;
            }
            Due.is(what + ": sure " + which, x.sure(which), there ? in : NONE);
        }
    }

    /** test: NONE: as of would(). */
    private static void ranges() {
        Due.range("line", n -> three().test(n, 0, 1), 0, 3);
        Due.range("number", n -> three().test(0, n, 5), 0, 99999);
        Due.range("many", n -> three().test(0, 0, n), 1, 5);
        Due.is("the last 3 of 99013", three().test(0, 99013, 3), 5);
    }

    private static void notQuiet() {
        TownExchange x = three();
        x.lift(0);
        Due.is("tone", x.test(0, 9, 1), NONE);
        Due.dialAll(x, 0, "011");
        Due.is("rung", x.test(0, 9, 1), NONE);
        Due.is("called", x.test(1, 9, 1), NONE);
        Due.is("none is noted", x.count(7), 0);
        Due.is("its home is held", x.test(3, 9000, 4), 7);
        Due.is("another is quiet", x.test(2, 9000, 4), 5);
        Due.is("one is noted", x.count(7), 1);
    }

    private static void noted(String what, TownExchange x, String digits, int state, boolean noted) {
        int before = x.count(7);
        Due.is(what, x.test(0, Integer.parseInt(digits), digits.length()), state);
        Due.is(what + ": noted", x.count(7), before + (noted ? 1 : 0));
    }

    /** A TEST is noted if it ends SILENT (it FAILED) or RUNG (it PASSED). */
    private static void whatIsNoted() {
        TownExchange x = threeFaulty(24);
        noted("goes on", x, "1", 1, false);
        noted("goes on at a final", x, "11", 1, false);
        noted("goes on over a junction", x, "912", 1, false);
        noted("rung", x, "111", 5, true);
        noted("rung, digits behind", x, "11199", 5, true);
        noted("rung over a junction", x, "9123", 5, true);
        noted("busy", x, "110", 3, false);
        noted("dead at a level", x, "8", 4, false);
        noted("dead at a final", x, "177", 4, false);
        noted("silent", x, "0", 2, true);
        noted("silent, digits behind", x, "01177", 2, true);
        x.out(25, true);
        noted("busy, out", x, "111", 3, false);
        x.faulty(0, true);
        noted("silent at once", x, "8", 2, true);
        x.out(0, true);
        noted("nothing is free", x, "9123", 7, false);
    }

    /** 60 at most: the state is told all the same. */
    private static void sixtyTests() {
        TownExchange x = threeFaulty(24);
        for (int i = 1; i <= 59; i++) {
            noted("test " + i, x, "111", 5, true);
        }
        noted("the 60th fails", x, "011", 2, true);
        set("it is noted", x, 24);
        noted("the 61st would pass", x, "211", 5, false);
        noted("another would fail", x, "011", 2, false);
        noted("busy", x, "110", 3, false);
        Due.is("60", x.count(7), 60);
        TownExchange y = threeFaulty(24, 25);
        for (int i = 1; i <= 60; i++) {
            noted("test " + i, y, "011", 2, true);
        }
        set("0 has not passed", y, 0);
        noted("0 would pass, but 60 are noted", y, "211", 5, false);
        set("still", y, 0);
        Due.is("forgotten", y.forget(), 60);
        noted("it passes", y, "211", 5, true);
        noted("and fails", y, "011", 2, true);
        set("24 is left", y, 24);
    }

    /** The most that can be noted: five digits meet six switches, sixty times. */
    private static void sixtyTestsOfSixSwitches() {
        TownExchange x = new TownExchange();
        for (int rack = 0; rack < 6; rack++) {
            x.rack(0, 1, 1);
        }
        x.rack(1, 1, 1);
        for (int rack = 0; rack < 5; rack++) {
            x.outlet(rack, 0, 0, 0, 8 * rack + 8);
            x.outlet(rack, 0, 9, 0, 100);
            x.line(rack, 6, rack);
        }
        x.faulty(40, true);
        for (int i = 0; i < 59; i++) {
            noted("test " + i, x, "00000", 2, true);
        }
        set("any of six", x, 0);
        noted("the 60th", x, "00000", 2, true);
        set("any of six", x, 0);
        Due.is("none is sure", x.sure(0) + x.sure(40), 0);
        Due.is("60", x.forget(), 60);
        for (int line = 0; line < 5; line++) {
            Due.is("passes", x.test(line, 9000, 4), 5);
        }
        for (int i = 5; i < 60; i++) {
            noted("test " + i, x, "00000", 2, true);
        }
        set("the sixth", x, 40);
        Due.is("it is sure", x.sure(40), 1);
        x.forget();
        for (int i = 0; i < 59; i++) {
            noted("test " + i, x, "9000", 5, true);
        }
        noted("only the 60th fails", x, "00000", 2, true);
        set("the second of six", x, 8);
    }

    private static void nothingIsHeldByIt() {
        TownExchange x = three();
        x.test(0, 11, 3);
        x.test(0, 9000, 4);
        Due.is("switches", x.count(4), 0);
        Due.is("junctions", x.count(12), 0);
        Due.is("calling", x.count(3), 0);
        Due.is("quiet", x.look(0, 0) + x.look(1, 0), 0);
        Due.is("not in the book", x.count(5), 0);
    }

    /** explain: what 0 to 3. */
    private static void whatRanges() {
        TownExchange x = threeFaulty(24, 25, 26);
        Due.range("what, none failed", x::explain, 0, 0);
        x.test(0, 0, 1);
        Due.range("what, of one", x::explain, 0, 1);
        x.test(1, 1, 1);
        Due.range("what, of two", x::explain, 0, 2);
        x.test(2, 2, 1);
        Due.range("what, of three", x::explain, 0, 3);
    }

    /** 0 if none FAILED. */
    private static void noneFailed() {
        TownExchange x = three();
        set("no tests", x);
        sure("no tests", x);
        x.test(0, 11, 3);
        x.test(1, 9000, 4);
        set("none failed", x);
        sure("none failed", x);
    }

    /** FEWEST: 3 at most; none of 3 or fewer do: NONE. */
    private static void noughtToFour() {
        TownExchange x = threeFaulty(24, 25, 26, 27);
        x.test(0, 411, 3);
        set("0 has passed", x);
        x.test(0, 0, 1);
        set("one", x, 24);
        x.test(0, 1, 1);
        set("two", x, 24, 25);
        x.test(0, 2, 1);
        set("three", x, 24, 25, 26);
        sure("three", x, 24, 25, 26);
        x.test(0, 3, 1);
        noSet("four", x);
        x.forget();
        set("none", x);
    }

    /** None that PASSED has one of the set. */
    private static void noneThatPassed() {
        TownExchange x = threeFaulty(24);
        x.test(0, 0, 1);
        set("the least", x, 0);
        sure("either", x);
        x.test(0, 9000, 4);
        set("the home has passed", x, 24);
        sure("the final", x, 24);
        x.faulty(24, false);
        Due.is("passes by now", x.test(1, 10, 3), 5);
        noSet("all have passed", x);
        x.forget();
        x.test(1, 10, 3);
        x.faulty(24, true);
        x.test(0, 0, 1);
        set("what passed ahead counts alike", x, 0);
    }

    /** The SWITCHES it would hold: a JUNCTION is none. */
    private static void junctionsExplainNothing() {
        TownExchange x = three();
        x.test(0, 9000, 4);
        x.faulty(0, true);
        Due.is("silent at once", x.test(0, 9000, 4), 2);
        noSet("0 alone, which has passed", x);
        x.forget();
        x.test(0, 9000, 4);
        set("0 alone", x, 0);
        sure("0 alone", x, 0);
        Due.is("a junction", x.sure(100), NONE);
    }

    /** What is noted is what was met: whatever is told later. */
    private static void asItWasNoted() {
        TownExchange x = threeFaulty(24);
        x.test(0, 9000, 4);
        x.test(0, 0, 1);
        x.faulty(24, false);
        x.out(24, true);
        x.outlet(0, 0, 0, 0, 25);
        set("24 failed", x, 24);
        sure("24", x, 24);
        x.lift(0);
        set("while 0 is held", x, 24);
        x.end(0);
        x.rack(0, 1, 1);
        set("with a rack more", x, 24);
        Due.is("its switch is not sure", x.sure(32), 0);
    }

    /** THE SET: the one with the least SWITCH first. */
    private static void leastFirst() {
        TownExchange x = threeFaulty(24, 25);
        x.test(2, 1, 1);
        set("16 or 25", x, 16);
        x.test(1, 81, 2);
        set("16 or 25, both meet 8 or not", x, 16);
        sure("16 or 25", x);
        x.test(1, 0, 1);
        set("8 or 24, and 16 or 25", x, 8, 16);
        sure("none is in all", x);
        x.test(1, 9000, 4);
        set("8 has passed", x, 16, 24);
        sure("24 is in all", x, 24);
        x.test(2, 9000, 4);
        set("16 has passed", x, 24, 25);
        sure("24 and 25", x, 24, 25);
    }

    /** Then the second: {0, 8} ahead of {0, 16}, {0, 25} and {24, ..}, whatever was noted first. */
    private static void thenTheSecond() {
        for (int order = 0; order < 2; order++) {
            TownExchange x = threeFaulty(24, 25);
            x.test(order == 0 ? 0 : 1, order == 0 ? 0 : 81, order == 0 ? 1 : 2);
            x.test(order == 0 ? 1 : 0, order == 0 ? 81 : 0, order == 0 ? 2 : 1);
            set("0, 8", x, 0, 8);
            sure("none is in all", x);
            x.test(1, 9000, 4);
            set("0, 16", x, 0, 16);
            x.test(2, 9000, 4);
            set("0, 25", x, 0, 25);
            sure("25 is in all", x, 25);
            x.test(0, 9000, 4);
            set("24, 25", x, 24, 25);
            sure("both", x, 24, 25);
        }
    }

    /** And so the third. */
    private static void thenTheThird() {
        TownExchange x = threeFaulty(24, 25, 26);
        x.test(2, 2, 1);
        x.test(0, 0, 1);
        x.test(1, 1, 1);
        set("0, 8, 16", x, 0, 8, 16);
        sure("none is in all", x);
        x.test(2, 9000, 4);
        set("0, 8, 26", x, 0, 8, 26);
        sure("26 is in all", x, 26);
        x.test(1, 9000, 4);
        set("0, 25, 26", x, 0, 25, 26);
        sure("25, 26", x, 25, 26);
        x.test(0, 9000, 4);
        set("24, 25, 26", x, 24, 25, 26);
        sure("all", x, 24, 25, 26);
    }

    /** Lines at home in high racks that step to lower ones: THE SET goes by the SWITCHES, not as they are met. */
    private static void metTheOtherWayRound() {
        TownExchange x = new TownExchange();
        x.rack(1, 8, 1);
        for (int rack = 1; rack < 6; rack++) {
            x.rack(0, 1, 1);
            for (int level = 0; level < 8; level++) {
                x.outlet(rack, 0, level, 0, level);
            }
            x.outlet(rack, 0, 8, 0, 8 * rack - 8);
            x.outlet(rack, 0, 9, 0, 100);
            x.line(rack, 0, rack - 1);
        }
        for (int i = 0; i < 8; i++) {
            x.faulty(i, true);
        }
        x.test(4, 7, 1);
        set("40 and 7", x, 7);
        x.test(4, 888, 3);
        set("40 by 32 and 24 to 16: not silent", x, 7);
        x.test(4, 88886, 5);
        set("40, 32, 24, 16, 8, 6", x, 40);
        x.test(4, 9000, 4);
        set("40 has passed", x, 6, 7);
        x.forget();
        x.test(4, 8885, 4);
        set("40, 32, 24, 16, 5", x, 5);
        x.test(3, 885, 3);
        set("32, 24, 16, 5", x, 5);
        x.test(2, 4, 1);
        set("24, 4", x, 24);
        x.test(1, 3, 1);
        set("16, 3", x, 3, 24);
        x.test(2, 3, 1);
        set("24, 3", x, 3, 24);
        Due.is("24 with 3 or 16", x.sure(24), 1);
        Due.is("not 3, nor 16, nor 4", x.sure(3) + x.sure(16) + x.sure(4), 0);
        x.test(2, 9000, 4);
        set("24 has passed: 3, 4 and one of 5, 16, 32", x, 3, 4, 5);
        Due.is("3 and 4", x.sure(3) + x.sure(4), 2);
        Due.is("not 5, 16, 32", x.sure(5) + x.sure(16) + x.sure(32), 0);
        x.forget();
        x.test(4, 84, 2);
        x.test(1, 81, 2);
        set("40, 32, 4 and 16, 8, 1", x, 1, 4);
        x.test(0, 9000, 4);
        x.faulty(1, false);
        x.test(0, 101, 3);
        set("1 and 8 have passed", x, 4, 16);
        x.forget();
        x.test(2, 0, 1);
        x.test(1, 7, 1);
        set("24, 0 and 16, 7", x, 0, 7);
    }

    /** SURE is a SWITCH that is in all sets of that many that EXPLAIN them: larger sets do not count. */
    private static void sureInAll() {
        TownExchange x = threeFaulty(24, 25);
        x.test(0, 0, 1);
        x.test(0, 1, 1);
        set("0 explains both", x, 0);
        sure("0, though 24 and 25 would", x, 0);
        x.test(1, 0, 1);
        set("two by now", x, 0, 8);
        sure("0 is in two of three sets: 0, 8; 0, 24; 24, 25", x);
        x.test(1, 9000, 4);
        set("8 has passed", x, 0, 24);
        sure("0, 24 or 24, 25", x, 24);
    }

    /** sure: none such: NONE; nothing of 3 or fewer EXPLAINS: NONE. */
    private static void sureRanges() {
        TownExchange x = threeFaulty(24);
        x.test(0, 0, 1);
        Due.range("finals", x::sure, 24, 31);
        Due.range("selector", x::sure, 0, 0);
        Due.range("selector", x::sure, 16, 16);
        Due.is("100", x.sure(100), NONE);
        Due.is("96", x.sure(96), NONE);
        x.faulty(24, false);
        x.test(0, 11, 3);
        noSet("both have passed", x);
        Due.is("still none such", x.sure(24), NONE);
        Due.is("still none such", x.sure(1), NONE);
    }

    /** FORGOTTEN: all TESTS are away; how many there were. */
    private static void forgotten() {
        TownExchange x = threeFaulty(24);
        Due.is("none yet", x.forget(), 0);
        x.test(0, 0, 1);
        Due.is("one", x.forget(), 1);
        Due.is("none left", x.count(7), 0);
        Due.is("none left", x.forget(), 0);
        set("none failed", x);
        sure("none failed", x);
        for (int i = 0; i < 3; i++) {
            x.test(i, 0, 1);
        }
        Due.is("three", x.count(7), 3);
        set("24 explains all", x, 24);
        Due.is("three", x.forget(), 3);
        x.test(2, 0, 1);
        set("what was forgotten does not count", x, 16);
    }

    private static void refused() {
        Refused town = new Refused(Refused::town);
        town.none("test(9, ..)", x -> x.test(9, 411, 3));
        town.none("test, answered", x -> x.test(0, 411, 3));
        town.none("test, spoken to", x -> x.test(1, 411, 3));
        town.none("test of 6 digits", x -> x.test(5, 417, 6));
        town.none("test of 0 digits", x -> x.test(5, 417, 0));
        town.none("test of 100000", x -> x.test(5, 100000, 3));
        town.is("test, busy", x -> x.test(7, 411, 3), 3);
        town.is("test, dead", x -> x.test(7, 51, 2), 4);
        town.is("test, goes on", x -> x.test(7, 41, 2), 1);
        town.none("explain(4)", x -> x.explain(4));
        town.none("explain(-1)", x -> x.explain(-1));
        town.none("sure(12)", x -> x.sure(12));
        Refused full = new Refused(() -> {
            TownExchange x = Refused.town();
            for (int i = 0; i < 58; i++) {
                x.test(5, 417, 3);
            }
            return x;
        });
        full.is("a 61st test", x -> x.test(7, 415, 3), 5);
    }
}
