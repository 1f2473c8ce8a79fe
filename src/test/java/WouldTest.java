/** What would get through, and pairs that block each other: promises 17, 18. */
public final class WouldTest {
    public static void main(String[] args) {
        would();
        wrongOnes();
        nothingChanges();
        block();
        blockWrong();
        Due.finish("WouldTest");
    }

    private static void would() {
        TownExchange x = Due.small();
        Due.is("goes on", x.would(0, 4, 1), 1);
        Due.is("still", x.would(0, 41, 2), 1);
        Due.is("rung", x.would(0, 411, 3), 5);
        Due.is("more digits", x.would(0, 41199, 5), 5);
        Due.is("a nought", x.would(0, 0, 1), 4);
        Due.is("itself", x.would(0, 410, 3), 3);
        Due.is("no such", x.would(0, 477, 3), 4);
        Due.is("no level", x.would(0, 5, 1), 4);
        Due.is("noughts ahead", x.would(0, 411, 5), 4);
        Due.is("the last ones only", x.would(0, 99411, 3), 5);
        Due.is("the last one", x.would(0, 99994, 1), 1);
        Due.is("junction goes on", x.would(0, 912, 3), 1);
        Due.is("junction", x.would(0, 9123, 4), 5);
        x.faulty(8, true);
        Due.is("silent", x.would(0, 411, 3), 2);
        x.out(8, true);
        Due.is("around it", x.would(0, 411, 3), 5);
        x.out(9, true);
        Due.is("busy", x.would(0, 411, 3), 3);
        x.faulty(0, true);
        Due.is("silent at once", x.would(0, 411, 3), 2);
        for (int i = 0; i < 4; i++) {
            x.out(i, true);
        }
        Due.is("nothing is free", x.would(0, 411, 3), 7);
    }

    private static void wrongOnes() {
        TownExchange x = Due.small();
        Due.is("line 4", x.would(4, 4, 1), -1);
        Due.is("line -1", x.would(-1, 4, 1), -1);
        Due.is("digits -1", x.would(0, -1, 1), -1);
        Due.is("digits 100000", x.would(0, 100000, 5), -1);
        Due.is("many 0", x.would(0, 4, 0), -1);
        Due.is("many 6", x.would(0, 4, 6), -1);
        Due.is("99999", x.would(0, 99999, 5), 5);
        Due.call(x, 0, "411");
        Due.is("calling", x.would(0, 4, 1), -1);
        Due.is("called", x.would(1, 4, 1), -1);
    }

    private static void nothingChanges() {
        TownExchange x = Due.small();
        x.would(0, 411, 3);
        x.block(0, 411, 3, 2, 413, 3);
        x.laid(0, 411, 3, 0);
        x.test(0, 411, 3);
        for (int line = 0; line < 4; line++) {
            Due.is("quiet", x.look(line, 0), 0);
            Due.is("no path", x.path(line, 0), -1);
        }
        Due.is("none calling", x.count(3), 0);
        Due.is("none held", x.count(4), 0);
        Due.is("no junction held", x.count(12), 0);
        Due.is("no book", x.count(5), 0);
        Due.is("lifts at the first", x.lift(3), 0);
        Due.is("it is 0", x.path(3, 0), 0);
    }

    private static void block() {
        TownExchange x = Due.small();
        Due.is("neither", x.block(0, 411, 3, 2, 413, 3), 0);
        Due.is("the same line", x.block(0, 413, 3, 2, 413, 3), 3);
        Due.is("the other line", x.block(0, 412, 3, 2, 413, 3), 3);
        Due.is("the same junction", x.block(0, 9000, 4, 2, 9111, 4), 3);
        Due.is("line and junction", x.block(0, 9000, 4, 2, 411, 3), 0);
        x.out(9, true);
        Due.is("one final left", x.block(0, 411, 3, 2, 413, 3), 3);
        x.out(9, false);
        for (int i = 1; i < 4; i++) {
            x.out(i, true);
        }
        Due.is("one selector left", x.block(0, 411, 3, 2, 413, 3), 3);

        TownExchange y = new TownExchange();
        y.rack(0, 2, 1);
        y.rack(0, 1, 1);
        y.rack(1, 2, 1);
        y.outlet(0, 0, 1, 0, 16);
        y.outlet(0, 0, 1, 1, 17);
        y.outlet(1, 0, 1, 0, 16);
        y.line(0, 2, 0);
        y.line(1, 2, 1);
        y.line(0, 2, 2);
        y.line(0, 2, 3);
        Due.is("a blocks b", y.block(0, 102, 3, 1, 103, 3), 1);
        Due.is("b blocks a", y.block(1, 102, 3, 0, 103, 3), 2);
    }

    private static void blockWrong() {
        TownExchange x = Due.small();
        Due.is("the same", x.block(0, 411, 3, 0, 413, 3), -1);
        Due.is("no a", x.block(4, 411, 3, 0, 413, 3), -1);
        Due.is("no b", x.block(0, 411, 3, -1, 413, 3), -1);
        Due.is("digits", x.block(0, 411, 6, 2, 413, 3), -1);
        Due.is("digits", x.block(0, 411, 3, 2, 413, 0), -1);
        Due.is("digits", x.block(0, -1, 3, 2, 413, 3), -1);
        Due.is("digits", x.block(0, 411, 3, 2, 100000, 3), -1);
        Due.is("a not rung", x.block(0, 410, 3, 2, 413, 3), -1);
        Due.is("b not rung", x.block(0, 411, 3, 2, 41, 2), -1);
        x.lift(3);
        Due.is("not quiet", x.block(0, 411, 3, 3, 412, 3), -1);
        Due.is("busy now", x.block(0, 411, 3, 2, 413, 3), -1);
    }
}
