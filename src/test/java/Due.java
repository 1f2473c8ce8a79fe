import java.util.NoSuchElementException;

/** What the tests share: comparing, feeding a text, and small exchanges to start from. */
final class Due {
    private static int checks = 0;
    private static int wrong = 0;

    private Due() {
    }

    static void is(String what, long got, long want) {
        checks++;
        if (got != want) {
            wrong++;
            System.out.println(what + " answered " + got + ", due is " + want);
        }
    }

    static void is(String what, boolean got, boolean want) {
        is(what, got ? 1 : 0, want ? 1 : 0);
    }

    static void lookThrows(String what, TownExchange x, int line, int which) {
        boolean thrown = false;
        try {
            x.look(line, which);
        } catch (NoSuchElementException e) {
            thrown = true;
        }
        is(what + " throws", thrown, true);
    }

    static void finish(String name) {
        System.out.println(name + ": " + checks + " checks, " + wrong + " wrong");
        if (wrong != 0 || checks == 0) {
            System.exit(1);
        }
    }

    /** Feeds a text of any length; answers what the last feed answered. */
    static int feed(TownExchange x, String text) {
        int size = x.count(10);
        for (int at = 0; at < text.length(); at += 24) {
            size = x.feed(pack(text, at), pack(text, at + 8), pack(text, at + 16));
        }
        return size;
    }

    static long pack(String text, int from) {
        long packed = 0;
        for (int i = from; i < from + 8; i++) {
            packed = packed << 8 | (i < text.length() ? text.charAt(i) & 255 : 0);
        }
        return packed;
    }

    static int tariff(TownExchange x, String text) {
        feed(x, text);
        return x.tariff();
    }

    static int fault(int kind, int place) {
        return kind + 16 * place;
    }

    static int dialAll(TownExchange x, int line, String digits) {
        int state = TownExchange.NONE;
        for (int i = 0; i < digits.length(); i++) {
            state = x.dial(line, digits.charAt(i) - '0');
        }
        return state;
    }

    static int call(TownExchange x, int line, String digits) {
        x.lift(line);
        return dialAll(x, line, digits);
    }

    /** Rack 0: 4 selectors, 1 section; rack 1: 2 finals at level 4; junction 0 at level 9; lines 0 to 3, numbers 10 to 13. */
    static TownExchange small() {
        TownExchange x = new TownExchange();
        x.rack(0, 4, 1);
        x.rack(1, 2, 1);
        x.outlet(0, 0, 4, 0, 8);
        x.outlet(0, 0, 4, 1, 9);
        x.outlet(0, 0, 9, 0, 100);
        for (int i = 0; i < 4; i++) {
            x.line(0, 1, 10 + i);
        }
        return x;
    }
}
