/** The limits of WOULD and BLOCK: promises 17 and 18. */
public final class EdgeWouldTest {
    private static final int NONE = TownExchange.NONE;

    public static void main(String[] args) {
        ranges();
        notQuiet();
        lastDigits();
        lastState();
        nothingFree();
        asItWouldBeMet();
        blockRanges();
        blockNotQuiet();
        blockNotRungByItself();
        oneSwitchLeft();
        sameEnds();
        theyRingEachOther();
        oneWayOnly();
        silentInsteadOfRung();
        nothingIsChanged();
        refused();
        Due.finish("EdgeWouldTest");
    }

    /** would: no such LINE; digits of a number (0 to 99999), 1 to 5 of them. */
    private static void ranges() {
        Due.range("line", n -> Due.small().would(n, 411, 3), 0, 3);
        for (int many = 1; many <= 5; many++) {
            int m = many;
            Due.range("number, of it " + m, n -> Due.small().would(0, n, m), 0, 99999);
        }
        Due.range("many of 0", n -> Due.small().would(0, 0, n), 1, 5);
        Due.range("many of 99999", n -> Due.small().would(0, 99999, n), 1, 5);
    }

    private static void notQuiet() {
        TownExchange x = Due.small();
        x.lift(0);
        Due.is("tone", x.would(0, 4, 1), NONE);
        Due.dialAll(x, 0, "411");
        Due.is("rung", x.would(0, 4, 1), NONE);
        Due.is("called", x.would(1, 4, 1), NONE);
        x.answer(0);
        Due.is("answered", x.would(0, 4, 1), NONE);
        Due.is("spoken to", x.would(1, 4, 1), NONE);
        Due.is("another", x.would(2, 4, 1), 1);
        x.end(0);
        Due.is("quiet again", x.would(0, 4, 1) + x.would(1, 4, 1), 2);
    }

    /** Digits are the last many (1 to 5) of a number, noughts ahead. */
    private static void lastDigits() {
        TownExchange x = Due.small();
        x.outlet(0, 0, 0, 0, 101);
        x.outlet(0, 0, 1, 0, 8);
        Due.is("4", x.would(0, 4, 1), 1);
        Due.is("04: over 101", x.would(0, 4, 2), 1);
        Due.is("0411", x.would(0, 411, 4), 5);
        Due.is("00411: over 101", x.would(0, 411, 5), 5);
        Due.is("411", x.would(0, 411, 3), 5);
        Due.is("11: at 8", x.would(0, 411, 2), 1);
        Due.is("1: at 8", x.would(0, 411, 1), 1);
        Due.is("the last 3 of 99412", x.would(0, 99412, 3), 5);
        Due.is("the last 4 of 99412: over 100", x.would(0, 99412, 4), 5);
        Due.is("the last 3 of 90499", x.would(0, 90499, 3), 4);
        Due.is("0: over 101", x.would(0, 10, 1), 1);
        Due.is("000", x.would(0, 0, 3), 1);
        Due.is("0000", x.would(0, 0, 4), 5);
        Due.is("10000: to number 0", x.would(0, 10000, 5), 4);
        Due.is("50000", x.would(0, 50000, 5), 4);
        Due.is("50000, its last 4", x.would(0, 50000, 4), 5);
    }

    /** Its last STATE, for every number of digits. */
    private static void lastState() {
        int[] rung = {1, 1, 5, 5, 5};
        int[] busy = {1, 1, 3, 3, 3};
        int[] deadAtFinal = {1, 1, 4, 4, 4};
        int[] dead = {4, 4, 4, 4, 4};
        int[] elsewhere = {1, 1, 1, 5, 5};
        lastStates(Due.small(), "41177", rung);
        lastStates(Due.small(), "41077", busy);
        lastStates(Due.small(), "47711", deadAtFinal);
        lastStates(Due.small(), "54411", dead);
        lastStates(Due.small(), "90000", elsewhere);
        TownExchange x = Due.small();
        x.faulty(8, true);
        lastStates(x, "41111", new int[] {2, 2, 2, 2, 2});
        x.faulty(0, true);
        lastStates(x, "54411", new int[] {2, 2, 2, 2, 2});
        TownExchange y = Due.small();
        y.out(8, true);
        y.out(9, true);
        lastStates(y, "41111", new int[] {3, 3, 3, 3, 3});
    }

    private static void lastStates(TownExchange x, String digits, int[] states) {
        for (int many = 1; many <= 5; many++) {
            String some = digits.substring(0, many);
            Due.is("would " + some, x.would(0, Integer.parseInt(some), many), states[many - 1]);
            Due.is("as it is then: " + some, Due.call(x, 0, some), states[many - 1]);
            x.end(0);
        }
    }

    /** 7: nothing is free for it. */
    private static void nothingFree() {
        TownExchange x = Due.small();
        x.line(0, 1, 20);
        for (int line = 0; line < 4; line++) {
            Due.is("one is free", x.would(4, 411, 3), line < 2 ? 5 : 3);
            x.lift(line);
        }
        for (int many = 1; many <= 5; many++) {
            Due.is("none is free", x.would(4, 411, many), 7);
        }
        x.end(3);
        Due.is("one is free", x.would(4, 413, 3), 5);
        x.out(3, true);
        Due.is("but it is out", x.would(4, 413, 3), 7);
        x.out(3, false);
        x.faulty(3, true);
        Due.is("but it is faulty", x.would(4, 413, 3), 2);
    }

    /** What it would meet now: as others stand now. */
    private static void asItWouldBeMet() {
        TownExchange x = Due.small();
        Due.is("quiet", x.would(0, 411, 3), 5);
        x.lift(1);
        Due.is("calling", x.would(0, 411, 3), 3);
        x.dial(1, 4);
        Due.is("by the other final", x.would(0, 412, 3), 5);
        Due.dialAll(x, 1, "12");
        Due.is("called", x.would(0, 412, 3), 3);
        Due.call(x, 3, "4");
        Due.is("both finals are held", x.would(0, 411, 3), 3);
        Due.is("the junction is not", x.would(0, 9000, 4), 5);
        x.end(1);
        Due.is("one is free", x.would(0, 411, 3), 5);
        x.outlet(0, 0, 4, 0, NONE);
        x.outlet(0, 0, 4, 1, NONE);
        Due.is("none leads there", x.would(0, 411, 3), 4);
    }

    private static int block(int a, int digitsA, int manyA, int b, int digitsB, int manyB) {
        return Due.small().block(a, digitsA, manyA, b, digitsB, manyB);
    }

    /** block: NONE: no such two LINES, the same, other digits. Line 0 rings 3, line 1 rings 2. */
    private static void blockRanges() {
        Due.is("neither", block(0, 413, 3, 1, 412, 3), 0);
        Due.range("a, behind b", n -> block(n, 9000, 4, 0, 413, 3), 1, 3);
        Due.range("b, behind a", n -> block(0, 413, 3, n, 9000, 4), 1, 3);
        Due.is("the same", block(0, 413, 3, 0, 413, 3), NONE);
        Due.is("the same, other digits", block(1, 413, 3, 1, 9000, 4), NONE);
        Due.is("both -1", block(-1, 413, 3, -1, 412, 3), NONE);
        Due.is("both 4", block(4, 413, 3, 4, 412, 3), NONE);
        Due.is("99999", block(0, 99999, 5, 1, 412, 3), 0);
        Due.is("100000", block(0, 100000, 5, 1, 412, 3), NONE);
        Due.is("109000, its last 4", block(0, 109000, 4, 1, 412, 3), NONE);
        Due.is("-1", block(0, -1, 4, 1, 412, 3), NONE);
        Due.is("-1 of b", block(0, 413, 3, 1, -1, 4), NONE);
        Due.is("99999 of b", block(0, 413, 3, 1, 99999, 5), 0);
        Due.is("100000 of b", block(0, 413, 3, 1, 100000, 5), NONE);
        Due.is("109000, its last 4", block(0, 413, 3, 1, 109000, 4), NONE);
        Due.range("many of a", n -> block(0, 41341, n, 1, 412, 3), 5, 5);
        Due.range("many of b", n -> block(0, 413, 3, 1, 99999, n), 4, 5);
        Due.is("many of a: 6", block(0, 41341, 6, 1, 412, 3), NONE);
        Due.is("many of b: 0", block(0, 413, 3, 1, 412, 0), NONE);
    }

    private static void blockNotQuiet() {
        TownExchange x = Due.small();
        x.line(0, 1, 20);
        x.line(0, 1, 21);
        Due.is("quiet", x.block(4, 9000, 4, 5, 413, 3), 0);
        x.lift(4);
        Due.is("a is calling", x.block(4, 9000, 4, 5, 413, 3), NONE);
        Due.is("b is calling", x.block(5, 413, 3, 4, 9000, 4), NONE);
        Due.dialAll(x, 4, "421");
        Due.is("a is called", x.block(5, 413, 3, 0, 9000, 4), NONE);
        Due.is("b is called", x.block(0, 9000, 4, 5, 413, 3), NONE);
        Due.is("others are quiet", x.block(0, 9000, 4, 1, 413, 3), 0);
    }

    /** None is told if one is not RUNG by itself. */
    private static void blockNotRungByItself() {
        int[][] notRung = {{4, 1}, {41, 2}, {477, 3}, {5, 1}, {912, 3}, {13, 2}};
        for (int[] n : notRung) {
            Due.is("a: " + n[0], block(0, n[0], n[1], 1, 412, 3), NONE);
            Due.is("b: " + n[0], block(1, 412, 3, 0, n[0], n[1]), NONE);
        }
        Due.is("a rings itself", block(0, 410, 3, 1, 412, 3), NONE);
        Due.is("b rings itself", block(1, 412, 3, 0, 410, 3), NONE);
        TownExchange x = Due.small();
        x.faulty(0, true);
        Due.is("both are silent", x.block(0, 413, 3, 1, 412, 3), NONE);
        x.faulty(0, false);
        for (int i = 0; i < 4; i++) {
            x.out(i, true);
        }
        Due.is("nothing is free", x.block(0, 413, 3, 1, 412, 3), NONE);
        TownExchange y = Due.small();
        y.faulty(8, true);
        Due.is("one is silent", y.block(0, 413, 3, 1, 9000, 4), NONE);
        Due.is("the other is", y.block(1, 9000, 4, 0, 413, 3), NONE);
        y.outlet(0, 0, 4, 0, 9);
        Due.is("none is", y.block(1, 9000, 4, 0, 413, 3), 0);
    }

    /** 3: both: one SWITCH, one final, one JUNCTION is left. */
    private static void oneSwitchLeft() {
        TownExchange x = Due.small();
        x.out(1, true);
        x.out(2, true);
        Due.is("two are left", x.block(0, 413, 3, 1, 9000, 4), 0);
        x.out(3, true);
        Due.is("one is left", x.block(0, 413, 3, 1, 9000, 4), 3);
        x.out(3, false);
        Due.is("two finals", x.block(0, 413, 3, 1, 412, 3), 0);
        x.out(8, true);
        Due.is("one final", x.block(0, 413, 3, 1, 412, 3), 3);
        Due.is("one junction", x.block(0, 9000, 4, 1, 9123, 4), 3);
        x.outlet(0, 0, 9, 3, 115);
        Due.is("two junctions", x.block(0, 9000, 4, 1, 9123, 4), 0);
    }

    /** The same LINE can be RUNG by one alone. */
    private static void sameEnds() {
        Due.is("the same line", block(0, 413, 3, 1, 413, 3), 3);
        Due.is("two lines", block(0, 413, 3, 1, 412, 3), 0);
        Due.is("digits behind are not asked", block(0, 41399, 5, 1, 41311, 5), 3);
    }

    /** One that is RUNG by the other is not QUIET; the one that calls is not either. */
    private static void theyRingEachOther() {
        Due.is("a rings b", block(0, 411, 3, 1, 9000, 4), 3);
        Due.is("b rings a", block(0, 9000, 4, 1, 410, 3), 3);
        Due.is("each the other", block(0, 411, 3, 1, 410, 3), 3);
        Due.is("a rings b, b rings another", block(0, 411, 3, 1, 413, 3), 3);
    }

    /** 1: b would not, if a were RUNG ahead; 2: a would not, if b were. */
    private static void oneWayOnly() {
        TownExchange x = new TownExchange();
        x.rack(0, 2, 1);
        x.rack(1, 2, 1);
        x.outlet(0, 0, 1, 0, 8);
        x.outlet(0, 0, 1, 1, 9);
        x.outlet(0, 0, 2, 0, 8);
        for (int i = 0; i < 4; i++) {
            x.line(0, 1, i);
        }
        Due.is("a takes what b needs, b leaves what a can use", x.block(0, 102, 3, 1, 203, 3), 1);
        Due.is("the other way", x.block(1, 203, 3, 0, 102, 3), 2);
        Due.is("both need it", x.block(0, 202, 3, 1, 203, 3), 3);
        Due.is("neither", x.block(0, 102, 3, 1, 103, 3), 0);
    }

    /** "would not": SILENT, BUSY, DEAD and 7 alike. */
    private static void silentInsteadOfRung() {
        TownExchange x = Due.small();
        x.faulty(1, true);
        Due.is("the second would be silent at once", x.block(0, 413, 3, 1, 412, 3), 3);
        x.faulty(1, false);
        x.faulty(9, true);
        Due.is("the second would be silent at the final", x.block(0, 413, 3, 1, 412, 3), 3);
        TownExchange y = new TownExchange();
        y.rack(0, 2, 2);
        y.rack(1, 2, 1);
        y.outlet(0, 0, 1, 0, 8);
        y.outlet(0, 0, 2, 0, 9);
        y.outlet(0, 1, 2, 0, 9);
        for (int i = 0; i < 4; i++) {
            y.line(0, 1, i);
        }
        Due.is("the second would be dead, by section 1", y.block(0, 102, 3, 1, 103, 3), 3);
        Due.is("level 2 leads on from both", y.block(0, 102, 3, 1, 203, 3), 2);
        Due.is("the other way", y.block(1, 203, 3, 0, 102, 3), 1);
    }

    private static TownExchange asked() {
        TownExchange x = Refused.town();
        x.out(1, false);
        return x;
    }

    /** WOULD, BLOCK: nothing being changed. */
    private static void nothingIsChanged() {
        Refused town = new Refused(EdgeWouldTest::asked);
        town.is("would be rung", x -> x.would(5, 417, 3), 5);
        town.is("would be rung elsewhere", x -> x.would(7, 9000, 4), 5);
        town.is("would be busy", x -> x.would(7, 413, 3), 3);
        town.is("would be dead", x -> x.would(7, 51, 2), 4);
        town.is("would go on", x -> x.would(7, 41, 2), 1);
        town.is("block, neither", x -> x.block(5, 9000, 4, 7, 9000, 4), 0);
        town.is("block, both", x -> x.block(5, 417, 3, 7, 9000, 4), 3);
        Refused silent = new Refused(() -> {
            TownExchange x = asked();
            x.faulty(1, true);
            return x;
        });
        silent.is("would be silent", x -> x.would(5, 417, 3), 2);
        Refused none = new Refused(() -> {
            TownExchange x = Refused.town();
            x.out(6, true);
            x.out(7, true);
            return x;
        });
        none.is("nothing is free", x -> x.would(5, 417, 3), 7);
    }

    private static void refused() {
        Refused town = new Refused(EdgeWouldTest::asked);
        town.none("would(9, ..)", x -> x.would(9, 411, 3));
        town.none("would, answered", x -> x.would(0, 411, 3));
        town.none("would, spoken to", x -> x.would(1, 411, 3));
        town.none("would of 6 digits", x -> x.would(5, 417, 6));
        town.none("would of 0 digits", x -> x.would(5, 417, 0));
        town.none("would of 100000", x -> x.would(5, 100000, 3));
        town.none("block of the same", x -> x.block(5, 417, 3, 5, 9000, 4));
        town.none("block, calling", x -> x.block(5, 417, 3, 3, 9000, 4));
        town.none("block, not rung", x -> x.block(5, 417, 3, 7, 51, 2));
        town.none("block of 6 digits", x -> x.block(5, 417, 3, 7, 9000, 6));
    }
}
