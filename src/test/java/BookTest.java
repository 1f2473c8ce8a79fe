/** The book of two times: promises 15, 16, 29. */
public final class BookTest {
    public static void main(String[] args) {
        twoTimes();
        wrongOnes();
        full();
        Due.finish("BookTest");
    }

    private static void talk(TownExchange x, int line, int seconds) {
        Due.call(x, line, "9000");
        x.answer(line);
        x.seconds(seconds);
        x.end(line);
    }

    private static void twoTimes() {
        TownExchange x = Due.small();
        Due.tariff(x, "unit 1 each 60 when 1;");
        talk(x, 0, 60);
        talk(x, 0, 120);
        x.seconds(86400 - 180 - 30);
        talk(x, 0, 240); // from day 0 into day 1
        talk(x, 1, 300); // day 1
        Due.is("day", x.book(2, 2), 0);
        Due.is("day of the end", x.book(2, 3), 1);
        Due.is("line", x.book(3, 0), 1);
        Due.is("units", x.book(3, 1), 5);
        Due.is("day 1", x.book(3, 2), 1);
        Due.is("known on day 0: not ended", x.bill(0, 0, 0, 0), 3);
        Due.is("known on day 1", x.bill(0, 0, 0, 1), 7);
        Due.is("of day 1", x.bill(0, 1, 1, 1), 0);
        Due.is("line 1", x.bill(1, 0, 11, 1), 5);
        x.seconds(86400);
        Due.is("word", x.word(0, 100), true);
        Due.is("as known on day 1", x.bill(0, 0, 0, 1), 7);
        Due.is("as known on day 2", x.bill(0, 0, 0, 2), 106);
        Due.is("another word on the same day", x.word(0, 0), true);
        Due.is("the latest", x.bill(0, 0, 0, 2), 6);
        x.seconds(86400);
        Due.is("word for another", x.word(2, 9999), true);
        Due.is("word", x.word(0, 50), true);
        Due.is("day 2 stays", x.bill(0, 0, 0, 2), 6);
        Due.is("day 3", x.bill(0, 0, 0, 3), 50 + 2 + 9999);
        Due.is("by the latest word", x.book(0, 1), 50);
        Due.is("words", x.count(6), 4);
    }

    private static void wrongOnes() {
        TownExchange x = Due.small();
        talk(x, 0, 1);
        Due.is("word 1", x.word(1, 0), false);
        Due.is("word -1", x.word(-1, 0), false);
        Due.is("units -1", x.word(0, -1), false);
        Due.is("units 10000", x.word(0, 10000), false);
        Due.is("none told", x.count(6), 0);
        Due.is("line 4", x.bill(4, 0, 0, 0), -1);
        Due.is("line -1", x.bill(-1, 0, 0, 0), -1);
        Due.is("from -1", x.bill(0, -1, 0, 0), -1);
        Due.is("to 12", x.bill(0, 0, 12, 0), -1);
        Due.is("from above to", x.bill(0, 5, 4, 0), -1);
        Due.is("from 12", x.bill(0, 12, 12, 0), -1);
        Due.is("t -1", x.bill(0, 0, 0, -1), -1);
        Due.is("t beyond now", x.bill(0, 0, 0, 1), -1);
        Due.is("days to come", x.bill(0, 11, 11, 0), 0);
        Due.is("book 1", x.book(1, 0), -1);
        Due.is("book -1", x.book(-1, 0), -1);
        Due.is("what 4", x.book(0, 4), -1);
        Due.is("what -1", x.book(0, -1), -1);
    }

    private static void full() {
        TownExchange x = Due.small();
        Due.tariff(x, "unit 1 each 60 when 1;");
        for (int i = 0; i < 200; i++) {
            talk(x, 0, 1);
        }
        Due.is("200", x.count(5), 200);
        Due.call(x, 0, "9000");
        x.answer(0);
        x.seconds(100);
        Due.is("its units all the same", x.end(0), 2);
        Due.is("not written", x.count(5), 200);
        Due.is("none such", x.book(200, 0), -1);
        Due.is("the bill", x.bill(0, 0, 0, 0), 200);
        for (int i = 0; i < 200; i++) {
            Due.is("word " + i, x.word(i, 2), true);
        }
        Due.is("200 were told", x.word(0, 3), false);
        Due.is("words", x.count(6), 200);
        Due.is("the bill", x.bill(0, 0, 0, 0), 400);
    }
}
