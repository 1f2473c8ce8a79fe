/** The limits of THE BOOK and promises 15, 16 and 29: 200 calls, 200 words, the days that a BILL may ask for. */
public final class EdgeBookTest {
    private static final int NONE = TownExchange.NONE;

    public static void main(String[] args) {
        writtenAsItEnds();
        dayOfTheAnswer();
        wordRanges();
        latestWord();
        fromTheDayNowOn();
        billRanges();
        billOfDays();
        endedOnOrAhead();
        bookRanges();
        twoHundredCalls();
        twoHundredWords();
        refused();
        Due.finish("EdgeBookTest");
    }

    private static void talk(TownExchange x, int line, int seconds) {
        Due.call(x, line, "9000");
        x.answer(line);
        Due.pass(x, seconds);
        x.end(line);
    }

    /** Three calls: 1, 2 and 3 units, of lines 0, 1 and 0. */
    private static TownExchange three() {
        TownExchange x = Due.small();
        Due.tariff(x, "unit 1 each 60 when 1;");
        talk(x, 0, 60);
        talk(x, 1, 120);
        talk(x, 0, 180);
        return x;
    }

    private static void entry(TownExchange x, int i, int line, int units, int day, int ended) {
        Due.is("line of " + i, x.book(i, 0), line);
        Due.is("units of " + i, x.book(i, 1), units);
        Due.is("day of " + i, x.book(i, 2), day);
        Due.is("day of the end of " + i, x.book(i, 3), ended);
    }

    /** Each call that was ANSWERED is written as it ENDS, in that order. */
    private static void writtenAsItEnds() {
        TownExchange x = Due.small();
        Due.tariff(x, "unit 1 each 60 when 1;");
        Due.call(x, 0, "413");
        x.answer(0);
        Due.call(x, 1, "9000");
        x.answer(1);
        Due.is("not while they last", x.count(5), 0);
        Due.is("not while they last", x.book(0, 0), NONE);
        Due.is("not while they last", x.bill(0, 0, 11, 0), 0);
        x.seconds(60);
        x.end(1);
        Due.is("one", x.count(5), 1);
        entry(x, 0, 1, 1, 0, 0);
        x.seconds(60);
        x.end(0);
        Due.is("two", x.count(5), 2);
        entry(x, 1, 0, 2, 0, 0);
        Due.call(x, 0, "9000");
        x.seconds(60);
        x.end(0);
        Due.call(x, 0, "410");
        x.end(0);
        x.lift(0);
        x.end(0);
        Due.is("rung, busy, lifted: not written", x.count(5), 2);
        Due.call(x, 3, "9000");
        x.answer(3);
        x.end(3);
        entry(x, 2, 3, 0, 0, 0);
        Due.is("the called line has no bill", x.bill(2, 0, 11, 0), 0);
    }

    /** Its DAY is that of t0; it has ENDED on that of t1. */
    private static void dayOfTheAnswer() {
        int[][] days = {{0, 0, 0, 0}, {86399, 0, 0, 0}, {86399, 1, 0, 1}, {86400, 0, 1, 1}, {86399, 86401, 0, 2},
            {0, 999999, 0, 11}, {950399, 1, 10, 11}, {950400, 0, 11, 11}, {999999, 0, 11, 11}};
        for (int[] d : days) {
            TownExchange x = Due.small();
            Due.pass(x, d[0]);
            talk(x, 2, d[1]);
            entry(x, 0, 2, 0, d[2], d[3]);
        }
        TownExchange x = Due.small();
        Due.call(x, 0, "9000");
        x.seconds(86400);
        x.answer(0);
        x.end(0);
        entry(x, 0, 0, 0, 1, 1);
    }

    /** word: a call in THE BOOK, 0 to 9999 UNITS. */
    private static void wordRanges() {
        Due.yes("call", n -> three().word(n, 5), 0, 2);
        Due.yes("units", n -> three().word(0, n), 0, 9999);
        Due.is("an empty book", Due.small().word(0, 0), false);
        TownExchange x = three();
        x.word(0, 10000);
        x.word(0, -1);
        x.word(3, 1);
        Due.is("none told", x.count(6), 0);
        Due.is("none told", x.bill(0, 0, 11, 0), 4);
        x.word(0, 0);
        Due.is("0", x.bill(0, 0, 11, 0), 3);
        x.word(0, 9999);
        Due.is("9999", x.bill(0, 0, 11, 0), 10002);
        Due.is("two told", x.count(6), 2);
    }

    /** The latest UNITS: of words on one DAY the last. */
    private static void latestWord() {
        TownExchange x = three();
        x.word(0, 10);
        x.word(1, 500);
        x.word(0, 20);
        x.word(2, 7);
        x.word(0, 15);
        entry(x, 0, 0, 15, 0, 0);
        entry(x, 1, 1, 500, 0, 0);
        entry(x, 2, 0, 7, 0, 0);
        Due.is("line 0", x.bill(0, 0, 11, 0), 22);
        Due.is("line 1", x.bill(1, 0, 11, 0), 500);
        Due.is("words", x.count(6), 5);
    }

    /** A later word gives it other UNITS, from the DAY NOW on. */
    private static void fromTheDayNowOn() {
        TownExchange x = three();
        Due.pass(x, 86399 - 360);
        x.word(0, 100);
        Due.is("on day 0", x.bill(0, 0, 11, 0), 103);
        x.seconds(1);
        x.word(0, 200);
        Due.is("day 0 stays", x.bill(0, 0, 11, 0), 103);
        Due.is("on day 1", x.bill(0, 0, 11, 1), 203);
        x.seconds(86399);
        x.word(2, 1000);
        Due.is("still on day 1", x.bill(0, 0, 11, 1), 1200);
        x.seconds(1);
        x.word(2, 2000);
        Due.is("day 0 stays", x.bill(0, 0, 11, 0), 103);
        Due.is("day 1 stays", x.bill(0, 0, 11, 1), 1200);
        Due.is("on day 2", x.bill(0, 0, 11, 2), 2200);
        Due.is("the book tells the latest", x.book(2, 1), 2000);
        Due.is("the book tells the latest", x.book(0, 1), 200);
        Due.pass(x, 999999 - x.count(0));
        x.word(0, 1);
        Due.is("on day 10", x.bill(0, 0, 11, 10), 2200);
        Due.is("on day 11", x.bill(0, 0, 11, 11), 2001);
    }

    /** bill: DAYS 0 to 11, from not above to; t 0 to the DAY NOW; NONE: no such LINE, DAYS. */
    private static void billRanges() {
        Due.range("line", n -> three().bill(n, 0, 11, 0), 0, 3);
        Due.range("from", n -> three().bill(0, n, 11, 0), 0, 11);
        Due.range("to", n -> three().bill(0, 0, n, 0), 0, 11);
        Due.range("from, up to 5", n -> three().bill(0, n, 5, 0), 0, 5);
        Due.range("to, from 5", n -> three().bill(0, 5, n, 0), 5, 11);
        Due.range("t on day 0", n -> three().bill(0, 0, 11, n), 0, 0);
        for (int day = 1; day <= 11; day++) {
            int today = day;
            Due.range("t on day " + day, n -> {
                TownExchange x = three();
                Due.pass(x, today * 86400 - 360);
                return x.bill(0, 0, 0, n);
            }, 0, day);
        }
        Due.is("from above to", three().bill(0, 1, 0, 0), NONE);
        Due.is("both beyond", three().bill(0, 12, 12, 0), NONE);
        Due.is("both below", three().bill(0, -1, -1, 0), NONE);
    }

    /** The sum over its calls of these DAYS, the first and the last among them. */
    private static void billOfDays() {
        TownExchange x = Due.small();
        Due.tariff(x, "unit 1 each 60 when day=0;unit 2 each 60 when day=1;"
                + "unit 4 each 60 when day=2;unit 8 each 60 when day=3;");
        for (int day = 0; day < 4; day++) {
            talk(x, 0, 60);
            talk(x, 1, 1);
            talk(x, 1, 59);
            Due.pass(x, 86400 - 120);
        }
        for (int from = 0; from < 4; from++) {
            int sum = 0;
            for (int to = from; to < 4; to++) {
                sum += 1 << to;
                Due.is(from + " to " + to, x.bill(0, from, to, 4), sum);
                Due.is("two calls, " + from + " to " + to, x.bill(1, from, to, 4), 2 * sum);
            }
            Due.is("behind", x.bill(0, from, 11, 4), 16 - (1 << from));
        }
        Due.is("days to come", x.bill(0, 4, 11, 4), 0);
        Due.is("another line", x.bill(2, 0, 11, 4), 0);
        for (int t = 0; t <= 4; t++) {
            Due.is("as known on " + t, x.bill(0, 0, 11, t), (1 << Math.min(t + 1, 4)) - 1);
        }
    }

    /** Calls that had ENDED on t or ahead. */
    private static void endedOnOrAhead() {
        TownExchange x = Due.small();
        Due.tariff(x, "unit 1 each 9999 when 1;");
        x.seconds(86399);
        talk(x, 0, 1);
        Due.is("not known on day 0", x.bill(0, 0, 11, 0), 0);
        Due.is("known on day 1", x.bill(0, 0, 11, 1), 1);
        Due.is("it is of day 0", x.bill(0, 0, 0, 1), 1);
        Due.is("not of day 1", x.bill(0, 1, 1, 1), 0);
        x.word(0, 50);
        Due.is("still not known on day 0", x.bill(0, 0, 11, 0), 0);
        Due.is("with its word", x.bill(0, 0, 11, 1), 50);
        talk(x, 1, 2 * 86400);
        for (int t = 0; t <= 3; t++) {
            Due.is("two days on, " + t, x.bill(1, 1, 1, t), t == 3 ? 18 : 0);
        }
    }

    /** book: the i-th call, what 0 to 3; NONE: none such. */
    private static void bookRanges() {
        for (int what = 0; what <= 3; what++) {
            int w = what;
            Due.range("call, what " + w, n -> three().book(n, w), 0, 2);
        }
        Due.range("what", n -> three().book(0, n), 0, 3);
        Due.range("what of the last", n -> three().book(2, n), 0, 3);
        Due.is("an empty book", Due.small().book(0, 0), NONE);
        entry(three(), 0, 0, 1, 0, 0);
        entry(three(), 1, 1, 2, 0, 0);
        entry(three(), 2, 0, 3, 0, 0);
    }

    /**
     * 200 at most (further ones are not written). More than 512 calls are needed for so many: beyond what the document
     * promises, but the limit stands all the same.
     */
    private static void twoHundredCalls() {
        TownExchange x = Due.small();
        Due.tariff(x, "unit 1 each 60 when 1;");
        for (int i = 1; i <= 199; i++) {
            talk(x, i % 2, 1);
        }
        Due.is("199", x.count(5), 199);
        Due.is("not yet", x.book(199, 0), NONE);
        talk(x, 2, 120);
        Due.is("200", x.count(5), 200);
        entry(x, 199, 2, 2, 0, 0);
        Due.call(x, 3, "9000");
        x.answer(3);
        x.seconds(180);
        Due.is("its units are told", x.end(3), 3);
        Due.is("still 200", x.count(5), 200);
        Due.is("not written", x.book(200, 0), NONE);
        Due.is("not in a bill", x.bill(3, 0, 11, 0), 0);
        Due.is("no word of it", x.word(200, 1), false);
        entry(x, 0, 1, 1, 0, 0);
        entry(x, 199, 2, 2, 0, 0);
        Due.is("a word of the last", x.word(199, 30), true);
        Due.is("in the bill", x.bill(2, 0, 11, 0), 30);
        Due.is("all in the bills", x.bill(0, 0, 11, 0) + x.bill(1, 0, 11, 0), 199);
    }

    private static TownExchange words(int many) {
        TownExchange x = three();
        for (int i = 0; i < many; i++) {
            Due.is("word " + i, x.word(i % 2, i), true);
        }
        return x;
    }

    /** 200 words at most. */
    private static void twoHundredWords() {
        TownExchange x = words(199);
        Due.is("199", x.count(6), 199);
        Due.is("the 200th", x.word(2, 4000), true);
        Due.is("200", x.count(6), 200);
        for (int call = 0; call < 3; call++) {
            Due.is("the 201st", x.word(call, 1), false);
        }
        Due.is("still 200", x.count(6), 200);
        entry(x, 0, 0, 198, 0, 0);
        entry(x, 1, 1, 197, 0, 0);
        entry(x, 2, 0, 4000, 0, 0);
        Due.is("line 0", x.bill(0, 0, 11, 0), 4198);
        Due.is("a bad word is none either", x.word(3, 1), false);
        x.seconds(86400);
        Due.is("nor on another day", x.word(0, 1), false);
        talk(x, 3, 60);
        Due.is("a new call has none", x.book(3, 1), 1);
        Due.is("nor gets one", x.word(3, 9), false);
        Due.is("its bill", x.bill(3, 0, 11, 1), 1);
    }

    /** What is refused has changed nothing. */
    private static void refused() {
        Refused town = new Refused(Refused::town);
        town.no("word(2, 1)", x -> x.word(2, 1));
        town.no("word(-1, 1)", x -> x.word(-1, 1));
        town.no("word(0, -1)", x -> x.word(0, -1));
        town.no("word(1, 10000)", x -> x.word(1, 10000));
        town.none("bill from above to", x -> x.bill(0, 1, 0, 1));
        town.none("bill to 12", x -> x.bill(0, 0, 12, 1));
        town.none("bill known on 2", x -> x.bill(0, 0, 11, 2));
        town.none("bill of 9", x -> x.bill(9, 0, 11, 1));
        town.none("book(2, 0)", x -> x.book(2, 0));
        town.none("book(0, 4)", x -> x.book(0, 4));
        Refused full = new Refused(() -> words(200));
        full.no("a 201st word", x -> x.word(0, 1));
    }
}
