/** Calls laid anew: promise 19. */
public final class LaidTest {
    public static void main(String[] args) {
        noneMoved();
        oneMoved();
        leastLine();
        overJunctions();
        wrongOnes();
        faultyAndOut();
        longCalls();
        lineNoughtAndJunction();
        selectorsOnly();
        Due.finish("LaidTest");
    }

    private static void due(TownExchange x, int line, int digits, int many, int fewest, int moved) {
        Due.is("fewest " + line + " " + digits, x.laid(line, digits, many, 0), fewest);
        Due.is("moved " + line + " " + digits, x.laid(line, digits, many, 1), moved);
    }

    private static void noneMoved() {
        TownExchange x = Due.small();
        due(x, 0, 411, 3, 0, -1);
        due(x, 0, 41199, 5, 0, -1);
        due(x, 0, 9000, 4, 0, -1);
        due(x, 0, 410, 3, -1, -1);
        due(x, 0, 477, 3, -1, -1);
        due(x, 0, 41, 2, -1, -1);
        due(x, 0, 900, 3, -1, -1);
        due(x, 0, 5, 1, -1, -1);
        // would meets the first selector, which leads to nothing free; laid takes any
        TownExchange y = new TownExchange();
        y.rack(0, 2, 2);
        y.rack(1, 1, 1);
        y.outlet(0, 1, 1, 3, 8);
        y.line(0, 1, 0);
        y.line(0, 1, 1);
        Due.is("dead", y.would(0, 101, 3), 4);
        due(y, 0, 101, 3, 0, -1);
    }

    private static void oneMoved() {
        TownExchange x = Due.pair();
        Due.call(x, 0, "10");
        due(x, 2, 203, 3, -1, -1);
        x.dial(0, 1);
        due(x, 2, 203, 3, 1, 0);
        x.answer(0);
        due(x, 2, 203, 3, 1, 0);
        Due.is("nothing is changed", x.held(8), 0);
        Due.is("nothing is changed", x.held(9), -1);
        due(x, 2, 201, 3, -1, -1);
        due(x, 2, 200, 3, -1, -1);
        Due.call(x, 4, "105");
        Due.is("both are held", x.held(9), 4);
        due(x, 2, 203, 3, -1, -1);
        due(x, 2, 103, 3, -1, -1);
        // the called line's number leads elsewhere by now
        TownExchange y = Due.pair();
        Due.call(y, 0, "101");
        y.outlet(0, 0, 1, 1, -1);
        due(y, 2, 203, 3, -1, -1);
        // selectors can be moved, too
        TownExchange z = new TownExchange();
        z.rack(0, 2, 2);
        z.rack(1, 2, 1);
        z.outlet(0, 0, 1, 0, 8);
        z.outlet(0, 1, 1, 0, 8);
        z.outlet(0, 0, 2, 0, 9);
        for (int i = 0; i < 4; i++) {
            z.line(0, 1, i);
        }
        Due.call(z, 0, "101");
        Due.is("section 1 has no level 2", z.would(2, 203, 3), 4);
        due(z, 2, 203, 3, 1, 0);
    }

    private static void leastLine() {
        TownExchange x = new TownExchange();
        x.rack(0, 4, 1);
        x.rack(1, 3, 1);
        x.outlet(0, 0, 1, 0, 8);
        x.outlet(0, 0, 1, 1, 9);
        x.outlet(0, 0, 1, 2, 10);
        x.outlet(0, 0, 2, 0, 8);
        x.outlet(0, 0, 2, 1, 9);
        for (int i = 0; i < 6; i++) {
            x.line(0, 1, i);
        }
        Due.call(x, 3, "101");
        Due.call(x, 2, "100");
        due(x, 4, 205, 3, 1, 2);
        x.end(2);
        due(x, 4, 205, 3, 0, -1);
    }

    private static void overJunctions() {
        TownExchange x = new TownExchange();
        x.rack(0, 4, 1);
        x.rack(1, 1, 1);
        x.outlet(0, 0, 9, 0, 100);
        x.outlet(0, 0, 9, 1, 101);
        x.outlet(0, 0, 8, 0, 100);
        x.outlet(0, 0, 9, 2, 8);
        x.line(0, 1, 0);
        x.line(0, 1, 1);
        x.line(0, 1, 2);
        Due.call(x, 0, "9011");
        due(x, 1, 8000, 4, 1, 0);
        Due.call(x, 2, "9000");
        Due.is("took the other", x.held(101), 2);
        due(x, 1, 8000, 4, -1, -1);
        x.end(2);
        // a final in the way does not do for a call over a junction
        x.outlet(0, 0, 9, 1, -1);
        due(x, 1, 8000, 4, -1, -1);
    }

    private static void wrongOnes() {
        TownExchange x = Due.small();
        Due.is("what 2", x.laid(0, 411, 3, 2), -1);
        Due.is("what -1", x.laid(0, 411, 3, -1), -1);
        Due.is("line 4", x.laid(4, 411, 3, 0), -1);
        Due.is("line -1", x.laid(-1, 411, 3, 0), -1);
        Due.is("many 0", x.laid(0, 411, 0, 0), -1);
        Due.is("many 6", x.laid(0, 411, 6, 0), -1);
        Due.is("digits -1", x.laid(0, -1, 3, 0), -1);
        Due.is("digits 100000", x.laid(0, 100000, 3, 0), -1);
        Due.call(x, 0, "411");
        Due.is("calling", x.laid(0, 412, 3, 0), -1);
        Due.is("called", x.laid(1, 412, 3, 0), -1);
    }

    private static void faultyAndOut() {
        TownExchange x = Due.pair();
        x.faulty(8, true);
        Due.is("would meet it", x.would(0, 101, 3), 2);
        due(x, 0, 101, 3, 0, -1);
        due(x, 0, 201, 3, -1, -1);
        x.faulty(8, false);
        Due.call(x, 0, "101");
        x.faulty(9, true);
        due(x, 2, 203, 3, -1, -1);
        x.faulty(9, false);
        x.out(9, true);
        due(x, 2, 203, 3, -1, -1);
        x.out(9, false);
        x.out(8, true);
        due(x, 2, 103, 3, 0, -1);
        due(x, 2, 203, 3, -1, -1);
        x.out(8, false);
        for (int i = 0; i < 4; i++) {
            x.faulty(i, true);
        }
        due(x, 2, 103, 3, -1, -1);
    }

    /** A call to line 0 is not laid over a junction instead. */
    private static void lineNoughtAndJunction() {
        TownExchange x = new TownExchange();
        x.rack(0, 4, 1);
        x.rack(1, 1, 1);
        x.rack(0, 1, 1);
        x.outlet(0, 0, 1, 0, 16);
        x.outlet(0, 0, 1, 1, 100);
        x.outlet(2, 0, 1, 0, 8);
        x.outlet(0, 0, 2, 0, 8);
        for (int i = 0; i < 4; i++) {
            x.line(0, 1, i);
        }
        Due.is("rung", Due.call(x, 1, "1100"), 5);
        due(x, 2, 203, 3, -1, -1);
    }

    /** Five digits that end at a selector ring nothing. */
    private static void selectorsOnly() {
        TownExchange x = new TownExchange();
        for (int i = 0; i < 7; i++) {
            x.rack(0, 1, 1);
        }
        x.rack(1, 1, 1);
        for (int i = 0; i < 6; i++) {
            x.outlet(i, 0, 0, 0, 8 * i + 8);
        }
        x.line(0, 7, 0);
        due(x, 0, 0, 5, -1, -1);
        Due.is("goes on", x.would(0, 0, 5), 1);
    }

    /** A call that took six digits stays where it is, one of five moves. */
    private static void longCalls() {
        for (int hops = 2; hops <= 4; hops++) {
            TownExchange x = new TownExchange();
            for (int i = 0; i < 4; i++) {
                x.rack(0, 2, 1);
            }
            x.rack(1, 2, 1);
            for (int i = 0; i < 3; i++) {
                x.outlet(i, 0, 1, 0, 8 * i + 8);
            }
            int last = hops - 1;
            x.outlet(last, 0, 2, 0, 32);
            x.outlet(last, 0, 2, 1, 33);
            x.outlet(0, 0, 3, 0, 32);
            for (int i = 0; i < 4; i++) {
                x.line(0, 4, i);
            }
            Due.is("rung", Due.call(x, 0, "111".substring(0, last) + "201"), 5);
            Due.is("digits", x.look(0, 4), last + 3);
            due(x, 2, 303, 3, last + 3 <= 5 ? 1 : -1, last + 3 <= 5 ? 0 : -1);
        }
    }
}
