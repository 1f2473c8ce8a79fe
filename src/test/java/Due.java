import java.util.NoSuchElementException;
import java.util.function.IntPredicate;
import java.util.function.IntToLongFunction;

/** What the tests share: comparing, ranges, feeding a text, and small exchanges to start from. */
final class Due {
    private static int checks = 0;
    private static int wrong = 0;

    private Due() {
    }

    static void is(String what, long got, long want) {
        checks++;
        if (got != want) {
            wrong++;
            System.out.println(what + " answered " + got + ", due is " + want);
        }
    }

    static void is(String what, boolean got, boolean want) {
        is(what, got ? 1 : 0, want ? 1 : 0);
    }

    static void is(String what, String got, String want) {
        checks++;
        if (!got.equals(want)) {
            wrong++;
            System.out.println(what + " answered " + got + ", due is " + want);
        }
    }

    /** Something else than NONE at both ends of a range, and NONE right beside them and far away. */
    static void range(String what, IntToLongFunction answer, int least, int most) {
        is(what + " " + least + " is allowed", answer.applyAsLong(least) != TownExchange.NONE, true);
        is(what + " " + most + " is allowed", answer.applyAsLong(most) != TownExchange.NONE, true);
        for (int n : beside(least, most)) {
            is(what + " " + n, answer.applyAsLong(n), TownExchange.NONE);
        }
    }

    /** Yes at both ends of a range, no right beside them and far away. */
    static void yes(String what, IntPredicate answer, int least, int most) {
        is(what + " " + least, answer.test(least), true);
        is(what + " " + most, answer.test(most), true);
        for (int n : beside(least, most)) {
            is(what + " " + n, answer.test(n), false);
        }
    }

    private static int[] beside(int least, int most) {
        return new int[] {least - 1, most + 1, Integer.MIN_VALUE, Integer.MAX_VALUE};
    }

    static void lookThrows(String what, TownExchange x, int line, int which) {
        boolean thrown = false;
        try {
            x.look(line, which);
        } catch (NoSuchElementException e) {
            thrown = true;
        }
        is(what + " throws", thrown, true);
    }

    static void finish(String name) {
        System.out.println(name + ": " + checks + " checks, " + wrong + " wrong");
        if (wrong != 0 || checks == 0) {
            System.exit(1);
        }
    }

    /** Feeds a text of any length; answers what the last feed answered. */
    static int feed(TownExchange x, String text) {
        int size = x.count(10);
        for (int at = 0; at < text.length(); at += 24) {
            size = x.feed(pack(text, at), pack(text, at + 8), pack(text, at + 16));
        }
        return size;
    }

    static long pack(String text, int from) {
        long packed = 0;
        for (int i = from; i < from + 8; i++) {
            packed = packed << 8 | (i < text.length() ? text.charAt(i) & 255 : 0);
        }
        return packed;
    }

    static int tariff(TownExchange x, String text) {
        feed(x, text);
        return x.tariff();
    }

    static int fault(int kind, int place) {
        return kind + 16 * place;
    }

    static int dialAll(TownExchange x, int line, String digits) {
        int state = TownExchange.NONE;
        for (int i = 0; i < digits.length(); i++) {
            state = x.dial(line, digits.charAt(i) - '0');
        }
        return state;
    }

    static int call(TownExchange x, int line, String digits) {
        x.lift(line);
        return dialAll(x, line, digits);
    }

    /** Lets so many seconds pass, as many as there are. */
    static void pass(TownExchange x, int seconds) {
        for (int left = seconds; left > 0; left -= 100000) {
            x.seconds(Math.min(left, 100000));
        }
    }

    /** What a line sees of its call: look(line, 0) to look(line, 5). */
    static void looks(String what, TownExchange x, int line, int... want) {
        for (int i = 0; i < want.length; i++) {
            is(what + ": look " + i, x.look(line, i), want[i]);
        }
    }

    /** What a line holds, in order, and nothing more. */
    static void path(String what, TownExchange x, int line, int... want) {
        for (int i = 0; i < want.length; i++) {
            is(what + ": path " + i, x.path(line, i), want[i]);
            is(what + ": held " + want[i], x.held(want[i]), line);
        }
        is(what + ": path beyond", x.path(line, want.length), TownExchange.NONE);
    }

    /** Rack 0: 4 selectors; rack 1: 2 finals, at level 4; junction 0 at level 9; lines 0 to 3, numbers 10 to 13. */
    static TownExchange small() {
        TownExchange x = new TownExchange();
        x.rack(0, 4, 1);
        x.rack(1, 2, 1);
        x.outlet(0, 0, 4, 0, 8);
        x.outlet(0, 0, 4, 1, 9);
        x.outlet(0, 0, 9, 0, 100);
        for (int i = 0; i < 4; i++) {
            x.line(0, 1, 10 + i);
        }
        return x;
    }

    /** Rack 0: 4 selectors; rack 1: 2 finals, both at level 1, 8 alone at level 2; lines 0 to 5, numbers 0 to 5. */
    static TownExchange pair() {
        TownExchange x = new TownExchange();
        x.rack(0, 4, 1);
        x.rack(1, 2, 1);
        x.outlet(0, 0, 1, 0, 8);
        x.outlet(0, 0, 1, 1, 9);
        x.outlet(0, 0, 2, 0, 8);
        for (int i = 0; i < 6; i++) {
            x.line(0, 1, i);
        }
        return x;
    }
}
