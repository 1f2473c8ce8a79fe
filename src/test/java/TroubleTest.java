/** Tests and the fewest switches that explain them: promises 22 to 25. */
public final class TroubleTest {
    public static void main(String[] args) {
        test();
        explain();
        twoAndThree();
        none();
        full();
        sixSwitches();
        apart();
        Due.finish("TroubleTest");
    }

    private static void test() {
        TownExchange x = Due.small();
        Due.is("rung", x.test(0, 411, 3), 5);
        Due.is("noted", x.count(7), 1);
        Due.is("goes on", x.test(0, 41, 2), 1);
        Due.is("busy", x.test(0, 410, 3), 3);
        Due.is("dead", x.test(0, 5, 1), 4);
        Due.is("not noted", x.count(7), 1);
        x.faulty(8, true);
        Due.is("silent", x.test(0, 411, 3), 2);
        Due.is("noted", x.count(7), 2);
        Due.is("line 4", x.test(4, 411, 3), -1);
        Due.is("many 6", x.test(0, 411, 6), -1);
        Due.is("many 0", x.test(0, 411, 0), -1);
        Due.is("digits", x.test(0, 100000, 5), -1);
        x.lift(1);
        Due.is("not quiet", x.test(1, 411, 3), -1);
        for (int i = 1; i < 4; i++) {
            x.out(i, true);
        }
        Due.is("nothing is free", x.test(0, 411, 3), 7);
        Due.is("not noted", x.count(7), 2);
        Due.is("forget", x.forget(), 2);
        Due.is("none", x.count(7), 0);
        Due.is("forget again", x.forget(), 0);
    }

    private static void explain() {
        TownExchange x = Due.small();
        Due.is("none failed", x.explain(0), 0);
        Due.is("no first", x.explain(1), -1);
        Due.is("none is sure", x.sure(0), 0);
        x.test(0, 411, 3);
        Due.is("only passed", x.explain(0), 0);
        x.forget();
        x.faulty(8, true);
        x.test(0, 411, 3);
        Due.is("one", x.explain(0), 1);
        Due.is("the least", x.explain(1), 0);
        Due.is("no second", x.explain(2), -1);
        Due.is("no third", x.explain(3), -1);
        Due.is("explain(4)", x.explain(4), -1);
        Due.is("explain(-1)", x.explain(-1), -1);
        Due.is("0 is not sure", x.sure(0), 0);
        Due.is("8 is not sure", x.sure(8), 0);
        x.test(0, 9000, 4);
        Due.is("0 has passed", x.explain(1), 8);
        Due.is("8 is sure", x.sure(8), 1);
        Due.is("9 is not", x.sure(9), 0);
        Due.is("no switch 4", x.sure(4), -1);
        Due.is("a junction is none", x.sure(100), -1);
        Due.is("-1", x.sure(-1), -1);
        x.faulty(0, true);
        x.test(0, 411, 3);
        Due.is("0 failed alone and passed", x.explain(0), -1);
        Due.is("no set", x.explain(1), -1);
        Due.is("not told", x.sure(8), -1);
        Due.is("not told", x.sure(9), -1);
    }

    /** Selectors 0 to 7 each by themselves, since all before are out; each leads to its own final at its level. */
    private static TownExchange rows() {
        TownExchange x = new TownExchange();
        x.rack(0, 1, 1);
        x.rack(1, 8, 1);
        x.rack(1, 1, 1);
        for (int i = 0; i < 8; i++) {
            x.outlet(0, 0, i, 0, 8 + i);
        }
        x.outlet(0, 0, 9, 0, 16);
        x.line(0, 1, 0);
        x.line(0, 1, 1);
        x.line(0, 2, 0);
        return x;
    }

    private static void twoAndThree() {
        TownExchange x = rows();
        x.test(0, 101, 3);
        x.faulty(13, true);
        x.faulty(10, true);
        x.faulty(12, true);
        x.faulty(14, true);
        x.test(0, 501, 3);
        Due.is("one", x.explain(0), 1);
        x.test(0, 201, 3);
        Due.is("two", x.explain(0), 2);
        Due.is("the least first", x.explain(1), 10);
        Due.is("then", x.explain(2), 13);
        x.test(0, 401, 3);
        Due.is("three", x.explain(0), 3);
        Due.is("first", x.explain(1), 10);
        Due.is("second", x.explain(2), 12);
        Due.is("third", x.explain(3), 13);
        Due.is("sure", x.sure(10) + x.sure(12) + x.sure(13), 3);
        Due.is("not sure", x.sure(0) + x.sure(14), 0);
        x.test(0, 601, 3);
        Due.is("four are too many", x.explain(0), -1);
        Due.is("none of them", x.explain(1), -1);
        Due.is("not told", x.sure(10), -1);

        TownExchange y = rows();
        y.faulty(13, true);
        y.faulty(10, true);
        y.test(0, 501, 3);
        y.test(0, 201, 3);
        Due.is("the selector explains both", y.explain(1), 0);
        Due.is("and is sure", y.sure(0), 1);
        y.test(0, 101, 3);
        Due.is("no more", y.explain(0), 2);
    }

    /** Five digits over selectors meet six switches; all but the last pass over junctions. */
    private static void sixSwitches() {
        TownExchange x = new TownExchange();
        for (int i = 0; i < 6; i++) {
            x.rack(0, 1, 1);
        }
        x.rack(1, 1, 1);
        for (int i = 0; i < 5; i++) {
            x.outlet(i, 0, 0, 0, 8 * i + 8);
            x.outlet(i, 0, 9, 0, 100);
            x.line(i, 6, i);
        }
        x.faulty(40, true);
        Due.is("silent at the sixth", x.test(0, 0, 5), 2);
        Due.is("any of six", x.explain(0), 1);
        for (int i = 0; i < 5; i++) {
            Due.is("the least that has not passed", x.explain(1), 8 * i);
            Due.is("is not sure", x.sure(8 * i), 0);
            Due.is("it passes", x.test(i, 9000, 4), 5);
        }
        Due.is("the sixth is left", x.explain(1), 40);
        Due.is("and sure", x.sure(40), 1);
    }

    /** Two tests that have no switch in common take two, whatever was noted before. */
    private static void apart() {
        TownExchange x = new TownExchange();
        x.rack(0, 1, 1);
        x.rack(0, 1, 1);
        x.rack(1, 2, 1);
        x.outlet(0, 0, 1, 0, 16);
        x.outlet(1, 0, 1, 0, 17);
        x.line(0, 2, 0);
        x.line(1, 2, 1);
        x.faulty(16, true);
        x.faulty(17, true);
        for (int round = 0; round < 2; round++) {
            x.test(0, 101, 3);
            x.test(1, 100, 3);
            Due.is("two", x.explain(0), 2);
            Due.is("0", x.explain(1), 0);
            Due.is("and 8", x.explain(2), 8);
            Due.is("four sets, none is sure", x.sure(0) + x.sure(8) + x.sure(16) + x.sure(17), 0);
            x.forget();
        }
    }

    private static void none() {
        TownExchange x = Due.small();
        x.faulty(0, true);
        x.test(0, 411, 3);
        x.faulty(0, false);
        x.test(0, 411, 3);
        Due.is("what failed has passed", x.explain(0), -1);
        x.forget();
        Due.is("forgotten", x.explain(0), 0);
    }

    private static void full() {
        TownExchange x = Due.small();
        for (int i = 0; i < 60; i++) {
            x.test(0, 411, 3);
        }
        Due.is("60", x.count(7), 60);
        x.faulty(0, true);
        Due.is("the state is told", x.test(0, 411, 3), 2);
        Due.is("60 at most", x.count(7), 60);
        Due.is("it is not noted", x.explain(0), 0);
        Due.is("forget", x.forget(), 60);
        x.test(0, 411, 3);
        Due.is("noted again", x.explain(1), 0);
    }
}
