import java.util.ArrayList;
import java.util.List;
import java.util.NoSuchElementException;
import java.util.function.Function;
import java.util.function.Predicate;
import java.util.function.Supplier;
import java.util.function.ToLongFunction;

/**
 * Calls that are refused: what they answer, and that they have changed nothing. An object that has heard the refused
 * call and one that has not are asked the same, and then told the same: all their answers have to be alike.
 */
final class Refused {
    // With the calls that make an object these stay within the 512 that the document speaks of.
    private static final int ASKED_AT_ONCE = 250;

    private record Asked(String name, ToLongFunction<TownExchange> call) {
    }

    private record Told(String name, Function<TownExchange, String> calls) {
    }

    private final Supplier<TownExchange> maker;
    private final List<Asked> asked = new ArrayList<>();
    private final List<Told> told = new ArrayList<>();

    Refused(Supplier<TownExchange> maker) {
        this.maker = maker;
        TownExchange x = maker.get();
        for (int what = 0; what <= 12; what++) {
            int w = what;
            asked.add(new Asked("count " + w, y -> y.count(w)));
        }
        for (int line = 0; line < x.count(2); line++) {
            askLine(line);
        }
        for (int end = 0; end < 116; end++) {
            int e = end;
            if (x.sure(end) != TownExchange.NONE || end >= 100) {
                asked.add(new Asked("held " + e, y -> y.held(e)));
                asked.add(new Asked("sure " + e, y -> y.sure(e)));
            }
        }
        for (int rack = 0; rack < x.count(1); rack++) {
            askLoss(rack);
        }
        for (int i = 0; i < 4; i++) {
            askFour(i);
        }
        tell();
    }

    private void askLine(int line) {
        for (int i = 0; i < 6; i++) {
            int n = i;
            asked.add(new Asked("look " + line + " " + n, y -> y.look(line, n)));
            asked.add(new Asked("path " + line + " " + n, y -> y.path(line, n)));
        }
        int[] digits = {411, 2499, 9000, 29000};
        for (int d : digits) {
            int many = Integer.toString(d).length();
            asked.add(new Asked("would " + line + " " + d, y -> y.would(line, d, many)));
            asked.add(new Asked("laid " + line + " " + d, y -> y.laid(line, d, many, 0)));
            asked.add(new Asked("moved " + line + " " + d, y -> y.laid(line, d, many, 1)));
        }
        asked.add(new Asked("bill " + line, y -> y.bill(line, 0, 11, 0)));
        asked.add(new Asked("bill now " + line, y -> y.bill(line, 0, 11, y.count(0) / 86400)));
    }

    private void askLoss(int rack) {
        for (int level = 0; level < 10; level++) {
            for (int k = 1; k <= 3; k++) {
                int l = level;
                int some = k;
                asked.add(new Asked("lost " + rack + " " + l + " " + k, y -> y.lost(rack, l, some)));
                asked.add(new Asked("more " + rack + " " + l + " " + k, y -> y.more(rack, l, some, 10)));
            }
        }
    }

    private void askFour(int i) {
        asked.add(new Asked("explain " + i, y -> y.explain(i)));
        for (int what = 0; what < 4; what++) {
            int w = what;
            asked.add(new Asked("book " + i + " " + w, y -> y.book(i, w)));
        }
    }

    private void tell() {
        told.add(new Told("calls end", Refused::endAll));
        told.add(new Told("calls begin", Refused::beginAll));
        told.add(new Told("calls over junctions", Refused::overJunctions));
        told.add(new Told("the tape is read",
                y -> y.tariff() + " " + y.count(8) + " " + y.count(9) + " " + y.count(10)));
        told.add(new Told("racks and lines are added",
                y -> y.rack(1, 1, 1) + " " + y.rack(0, 1, 1) + " " + y.line(0, 1, 98) + " " + y.count(11)));
        told.add(new Told("words are told", y -> y.word(0, 7) + " " + y.word(1, 8) + " " + y.count(6) + " "
                + y.bill(0, 0, 11, 0) + " " + y.book(0, 1)));
        told.add(new Told("tests are made", Refused::testAll));
        told.add(new Told("time passes", Refused::passAll));
    }

    private static String endAll(TownExchange y) {
        StringBuilder all = new StringBuilder();
        for (int line = 0; line < y.count(2); line++) {
            all.append(y.answer(line)).append(y.look(line, 5)).append(' ');
        }
        all.append(y.seconds(61));
        for (int line = 0; line < y.count(2); line++) {
            all.append(' ').append(y.end(line));
        }
        for (int i = 0; i < y.count(5); i++) {
            all.append(' ').append(y.book(i, 0)).append(' ').append(y.book(i, 2)).append(' ').append(y.book(i, 3));
        }
        return all.toString();
    }

    private static String beginAll(TownExchange y) {
        StringBuilder all = new StringBuilder();
        for (int line = 0; line < y.count(2); line++) {
            all.append(y.lift(line)).append(y.dial(line, 4)).append(y.dial(line, 1)).append(y.dial(line, 7 - line % 8));
            all.append(' ').append(y.look(line, 2)).append(' ').append(y.look(line, 4)).append(' ');
        }
        return all.toString();
    }

    private static String overJunctions(TownExchange y) {
        StringBuilder all = new StringBuilder(endAll(y));
        for (int line = 0; line < y.count(2); line++) {
            all.append(' ').append(y.lift(line)).append(y.dial(line, 9));
            all.append(y.dial(line, 0)).append(y.dial(line, 0)).append(y.dial(line, 0));
        }
        return all.append(endAll(y)).toString();
    }

    private static String testAll(TownExchange y) {
        StringBuilder all = new StringBuilder();
        for (int line = 0; line < y.count(2); line++) {
            all.append(y.test(line, 417, 3)).append(y.test(line, 2499, 4)).append(' ');
        }
        for (int what = 0; what < 4; what++) {
            all.append(' ').append(y.explain(what));
        }
        return all.append(' ').append(y.count(7)).append(y.forget()).toString();
    }

    private static String passAll(TownExchange y) {
        StringBuilder all = new StringBuilder();
        for (int i = 0; i < 11; i++) {
            all.append(y.seconds(100000)).append(' ');
        }
        return all.toString();
    }

    /** A call that answers NONE, or what else is told. */
    void is(String what, ToLongFunction<TownExchange> call, long want) {
        for (int from = 0; from < asked.size(); from += ASKED_AT_ONCE) {
            TownExchange plain = maker.get();
            TownExchange after = maker.get();
            Due.is(what, call.applyAsLong(after), want);
            for (Asked one : asked.subList(from, Math.min(from + ASKED_AT_ONCE, asked.size()))) {
                Due.is(what + ": then " + one.name, one.call.applyAsLong(after), one.call.applyAsLong(plain));
            }
        }
        for (Told one : told) {
            TownExchange after = maker.get();
            call.applyAsLong(after);
            Due.is(what + ": then " + one.name, one.calls.apply(after), one.calls.apply(maker.get()));
        }
    }

    void none(String what, ToLongFunction<TownExchange> call) {
        is(what, call, TownExchange.NONE);
    }

    void no(String what, Predicate<TownExchange> call) {
        is(what, x -> call.test(x) ? 1 : 0, 0);
    }

    void lookThrows(String what, int line, int which) {
        is(what, x -> {
            try {
                return x.look(line, which);
            } catch (NoSuchElementException e) {
                return -7;
            }
        }, -7);
    }

    /**
     * Three racks, nine lines, calls in every state, a tariff by zone and line, two calls in the book, a word, a test
     * that failed and one that passed, a switch that is out, one that is faulty, and signs on the tape.
     */
    static TownExchange town() {
        TownExchange x = new TownExchange();
        x.rack(0, 8, 2);
        x.rack(1, 4, 1);
        x.rack(0, 2, 1);
        int[][] outlets = {
            {0, 0, 4, 0, 8}, {0, 0, 4, 1, 9}, {0, 1, 4, 0, 9}, {0, 1, 4, 1, 10}, {0, 0, 2, 0, 16}, {0, 1, 2, 0, 17},
            {2, 0, 4, 0, 11}, {2, 0, 9, 0, 101}, {0, 0, 9, 0, 100}, {0, 1, 9, 0, 100}, {0, 0, 9, 1, 103},
            {0, 1, 9, 1, 102}};
        for (int[] o : outlets) {
            x.outlet(o[0], o[1], o[2], o[3], o[4]);
        }
        for (int i = 0; i < 8; i++) {
            x.line(0, 1, 10 + i);
        }
        x.line(2, 1, 99);
        x.zone(0, 5);
        x.zone(2, 7);
        Due.tariff(x, "let far=4<zone;unit 3 each 60 when far;unit 1 each 90 when line<5;unit 2 each 60 when 1;");
        Due.call(x, 0, "9000");
        x.answer(0);
        x.seconds(100);
        x.end(0);
        Due.call(x, 5, "411");
        x.answer(5);
        x.seconds(86400);
        x.end(5);
        x.word(0, 40);
        x.test(0, 411, 3);
        x.faulty(16, true);
        x.test(0, 24, 2);
        x.out(1, true);
        Due.call(x, 0, "411");
        x.answer(0);
        Due.call(x, 2, "9123");
        x.lift(3);
        Due.call(x, 4, "5");
        Due.call(x, 6, "2");
        x.lift(8);
        Due.feed(x, "let x");
        return x;
    }
}
