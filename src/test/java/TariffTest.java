/** The tape, the tariff's language and its faults, the units: promises 12 to 14. */
public final class TariffTest {
    public static void main(String[] args) {
        tape();
        tokens();
        grammar();
        names();
        numbers();
        depth();
        tooMany();
        whatStays();
        units();
        values();
        operations();
        Due.finish("TariffTest");
    }

    private static void tape() {
        TownExchange x = new TownExchange();
        Due.is("nothing", x.feed(0, 0, 0), 0);
        Due.is("order", x.feed(Due.pack("let a = ", 0), Due.pack("1;      ", 0), 0), 16);
        Due.is("read", x.tariff(), 0);
        Due.is("it is empty then", x.count(10), 0);
        Due.is("signs that are left out", x.feed(0x090A0B0C0D1F207EL, 0x7F80FFFEL, -1L), 3);
        Due.is("31 is no sign, 10, 32, 126 are", x.tariff(), Due.fault(1, 2));
        Due.is("one of each byte", x.feed(0x61L << 56, 0x61L, 0x6100L), 3);
        x.tariff();
        for (int i = 0; i < 41; i++) {
            Due.feed(x, "                        ");
        }
        Due.is("984", x.count(10), 984);
        Due.is("1000 at most", Due.feed(x, "let a=1                 "), 1000);
        Due.is("and no more", Due.feed(x, "x"), 1000);
        Due.is("the end is a token", x.tariff(), Due.fault(1, 1000));
        Due.is("empty though wrong", x.count(10), 0);
    }

    private static void wrong(String text, int kind, int place) {
        TownExchange x = new TownExchange();
        Due.is("tariff: " + text, Due.tariff(x, text), Due.fault(kind, place));
        Due.is("no lines", x.count(8), 0);
        Due.is("no names", x.count(9), 0);
    }

    private static void right(String text, int lines, int names) {
        TownExchange x = new TownExchange();
        Due.is("tariff: " + text, Due.tariff(x, text), 0);
        Due.is("lines of " + text, x.count(8), lines);
        Due.is("names of " + text, x.count(9), names);
    }

    private static void tokens() {
        right("", 0, 0);
        right(" \n ", 0, 0);
        right("let a=1;unit 1each 30when a;", 2, 1);
        right("let abcdefgh=1;", 1, 1);
        right("let\na\n=\n9999\n;\n", 1, 1);
        wrong("let abcdefghi=1;", 1, 4);
        wrong("let a=12345;", 1, 6);
        wrong("let a=1A;", 1, 7);
        wrong("let A=1;", 1, 4);
        wrong("let a1=1;", 1, 5);
        wrong("let a=1 2;", 1, 8);
        wrong("let a=1", 1, 7);
        wrong("let a=1  ", 1, 9);
        wrong("let", 1, 3);
        wrong("leta=1;", 1, 0);
        wrong("let a=>1;", 1, 6);
        wrong("let a=~;", 1, 6);
        wrong("units 1 each 60 when 1;", 1, 0);
        right("unit 1each60when1;", 1, 0);
    }

    private static void grammar() {
        wrong(";", 1, 0);
        wrong("1", 1, 0);
        wrong("let 1=1;", 1, 4);
        wrong("let a 1;", 1, 6);
        wrong("let a==1;", 1, 6);
        wrong("let a=;", 1, 6);
        wrong("let a=1<2<3;", 1, 9);
        wrong("let a=1=2=3;", 1, 9);
        wrong("let a=1<2=3;", 1, 9);
        wrong("let a=-1;", 1, 6);
        wrong("let a=1+;", 1, 8);
        wrong("let a=1 and;", 1, 11);
        wrong("let a=not;", 1, 9);
        wrong("let a=();", 1, 7);
        wrong("let a=(1;", 1, 8);
        wrong("let a=1);", 1, 7);
        wrong("let a=let;", 1, 6);
        wrong("let a=each;", 1, 6);
        wrong("unit x each 60 when 1;", 1, 5);
        wrong("unit 1 when 1;", 1, 7);
        wrong("unit 1 each x when 1;", 1, 12);
        wrong("unit 1 each 60 if 1;", 1, 15);
        wrong("unit 1 each 60 when 1", 1, 21);
        wrong("unit 1 each 60 when;", 1, 19);
        right("unit 1 each 60 when 1<2 and 3=4 or 5;", 1, 0);
        right("unit 1 each 60 when (1<2)<(2<3);", 1, 0);
        right("unit 1 each 60 when not not zone + hour - day * lasted < units * line;", 1, 0);
    }

    private static void names() {
        for (String word : new String[] {"zone", "hour", "day", "lasted", "units", "line", "let", "unit", "each", "when",
            "and", "or", "not"}) {
            wrong("let " + word + "=1;", 1, 4);
        }
        wrong("let a=b;", 2, 6);
        wrong("let a=a;", 2, 6);
        wrong("unit 1 each 60 when a; let a=1;", 2, 20);
        wrong("let a=1;let a=2;", 3, 12);
        wrong("let a=1;let b=a;let b=1;", 3, 20);
        right("let a=1;let b=a;let c=a+b;unit 1 each 60 when c;", 4, 3);
        right("let zon=1;let zones=zon;", 2, 2);
        right("let a=1;let aa=1;let aaa=1;let ab=1;let ba=1;let b=1;", 6, 6);
        right("let abcdefgh=1;let bbcdefgh=1;let abcdefgi=1;let bcdefgh=1;let z=1;let za=1;", 6, 6);
        Due.is("names are told apart", unitsOf("let ab=1;let ba=2;let aa=4;let b=8;let aaaaaaab=16;let baaaaaab=32;"
                + "unit 1 each 60 when ab+ba*2+aa*4+b*8+aaaaaaab*16+baaaaaab*32 = 1365;", false, 0, 1), 1);
    }

    private static void numbers() {
        right("unit 0 each 30 when 0;", 1, 0);
        right("unit 99 each 9999 when 0;", 1, 0);
        right("unit 0099 each 0030 when 0000;", 1, 0);
        wrong("unit 100 each 60 when 1;", 4, 5);
        wrong("unit 1 each 29 when 1;", 4, 12);
        wrong("unit 1 each 0 when 1;", 4, 12);
        wrong("unit 1 each 10000 when 1;", 1, 12);
        wrong("unit 00001 each 60 when 1;", 1, 5);
    }

    private static void depth() {
        right("let a=((((1))));", 1, 1);
        wrong("let a=(((((1)))));", 5, 11);
        wrong("let a=((((((1))))));", 5, 11);
        right("let a=not not not not 1;", 1, 1);
        wrong("let a=not not not not not 1;", 5, 26);
        wrong("let a=not not not not not not 1;", 5, 26);
        right("let a=not(not(1));", 1, 1);
        wrong("let a=not(not(not 1));", 5, 18);
        wrong("let a=(((((b)))));", 2, 11);
        wrong("let a=((((()))));", 1, 11);
        wrong("let a=(((((and", 1, 11);
        wrong("let a=(((((12345", 1, 11);
        wrong("let a=(((((zone", 5, 11);
        wrong("let b=1;let a=(((((b", 5, 19);
        right("let a=((((1))))*((((2))))+not not not not 3;", 1, 1);
        wrong("let a=((((1+(2)))));", 5, 13);
    }

    private static void tooMany() {
        StringBuilder lines = new StringBuilder();
        for (int i = 0; i < 16; i++) {
            lines.append("unit 1 each 60 when 1;");
        }
        int length = lines.length();
        right(lines.toString(), 16, 0);
        wrong(lines + " unit", 5, length + 1);
        wrong(lines + "let", 5, length);
        wrong(lines + "a", 1, length);
        wrong(lines + ";", 1, length);
        right(lines + " \n", 16, 0);
        String six = "let a=1;let b=1;let c=1;let d=1;let e=1;let f=1;";
        right(six, 6, 6);
        wrong(six + "let g=1;", 5, 52);
        wrong(six + "let a=1;", 3, 52);
        wrong(six + "let zone=1;", 1, 52);
    }

    private static void whatStays() {
        TownExchange x = new TownExchange();
        Due.tariff(x, "let a=1; unit 1 each 60 when a;");
        Due.is("a fault", Due.tariff(x, "let b=1; let c=d;"), Due.fault(2, 15));
        Due.is("the old one stays: lines", x.count(8), 2);
        Due.is("names", x.count(9), 1);
        Due.is("an empty one", x.tariff(), 0);
        Due.is("in its place", x.count(8), 0);
        Due.is("no names", x.count(9), 0);
    }

    /** The units of a call of line 0 over junction 0 (zone 3), or to line 1, of so many seconds from a second on. */
    private static int unitsOf(String text, boolean junction, int from, int seconds) {
        TownExchange x = Due.small();
        x.zone(0, 3);
        Due.is("read " + text, Due.tariff(x, text), 0);
        pass(x, from);
        Due.is("rung", Due.call(x, 0, junction ? "9000" : "411"), 5);
        x.answer(0);
        pass(x, seconds);
        return x.end(0);
    }

    private static void pass(TownExchange x, int seconds) {
        for (int left = seconds; left > 0; left -= 100000) {
            x.seconds(Math.min(left, 100000));
        }
    }

    private static void units() {
        Due.is("none: 0", unitsOf("", false, 0, 1000), 0);
        Due.is("at once", unitsOf("unit 7 each 60 when 1;", false, 0, 0), 0);
        Due.is("one second", unitsOf("unit 7 each 60 when 1;", false, 0, 1), 7);
        Due.is("60 seconds", unitsOf("unit 7 each 60 when 1;", false, 0, 60), 7);
        Due.is("61 seconds", unitsOf("unit 7 each 60 when 1;", false, 0, 61), 14);
        Due.is("the first line that is met", unitsOf("unit 1 each 60 when 0;unit 2 each 60 when 5;unit 3 each 60 when 1;", false, 0, 1), 2);
        Due.is("60 on without one", unitsOf("unit 1 each 30 when 119 < lasted;", false, 0, 200), 3);
        Due.is("the longest", unitsOf("unit 99 each 30 when 1;", false, 0, 999999), 99 * 33334);

        TownExchange x = Due.small();
        Due.tariff(x, "unit 1 each 60 when 1;");
        Due.call(x, 0, "9000");
        x.answer(0);
        x.seconds(120);
        Due.tariff(x, "unit 5 each 60 when zone = 7;");
        x.zone(0, 7);
        Due.is("the tariff is that of the end, as a whole", x.end(0), 10);
        Due.call(x, 0, "411");
        x.seconds(100);
        Due.is("not answered", x.end(0), 0);
    }

    private static void values() {
        Due.is("zone", unitsOf("unit 1 each 60 when zone = 3;", true, 0, 1), 1);
        Due.is("zone 0 without a junction", unitsOf("unit 1 each 60 when zone = 0;", false, 0, 1), 1);
        Due.is("hour 0", unitsOf("unit 1 each 60 when hour = 0;", false, 3599, 61), 1);
        Due.is("hour 23", unitsOf("unit 1 each 60 when hour = 23;", false, 86399, 1), 1);
        Due.is("hour 0 again", unitsOf("unit 1 each 60 when hour = 0;", false, 86400, 1), 1);
        Due.is("day 6", unitsOf("unit 1 each 60 when day = 6;", false, 7 * 86400 - 1, 61), 1);
        Due.is("day 0 again", unitsOf("unit 1 each 60 when day = 0;", false, 7 * 86400, 1), 1);
        Due.is("day 4 is 11", unitsOf("unit 1 each 60 when day = 4;", false, 11 * 86400, 1), 1);
        Due.is("lasted", unitsOf("unit 1 each 100 when lasted = 100 or lasted = 200;unit 9 each 100 when 1;", false, 55, 300), 11);
        Due.is("units so far", unitsOf("unit 5 each 60 when units < 8;unit 1 each 60 when 1;", false, 0, 240), 12);
        Due.is("line", unitsOf("unit 4 each 60 when line = 0;", false, 0, 1), 4);
        TownExchange x = Due.small();
        Due.tariff(x, "unit 6 each 60 when line = 2;");
        Due.call(x, 2, "411");
        x.answer(2);
        x.seconds(1);
        Due.is("line 2, by its own number", x.end(2), 6);
    }

    private static int value(String e, int is) {
        return unitsOf("let x = " + e + "; unit 1 each 60 when x = " + is + ";", false, 0, 1);
    }

    /** An operand of each kind of operation waits in each bracket. */
    private static String deepest(int brackets) {
        return brackets == 0 ? "1 and 2 = 1 + 1 * 1 + 0" : "1 and 2 = 1 + 1 * (" + deepest(brackets - 1) + ") + 0";
    }

    private static void operations() {
        Due.is("times ahead of plus", value("1 + 2 * 3", 7), 1);
        Due.is("minus from the left", value("10 - 3 - 2", 5), 1);
        Due.is("brackets", value("(1 + 2) * 3", 9), 1);
        Due.is("less", value("1 + 1 < 3", 1), 1);
        Due.is("not less", value("3 < 3", 0), 1);
        Due.is("below nought", value("0 - 5 < 0", 1), 1);
        Due.is("equal", value("2 * 2 = 4", 1), 1);
        Due.is("and tells 1", value("2 and 4", 1), 1);
        Due.is("and tells 0", value("2 and 0", 0), 1);
        Due.is("or tells 1", value("0 or 9", 1), 1);
        Due.is("or tells 0", value("0 or 0", 0), 1);
        Due.is("from the left alike", value("1 or 0 and 0", 0), 1);
        Due.is("from the left alike", value("0 and 0 or 1", 1), 1);
        Due.is("not 0", value("not 0", 1), 1);
        Due.is("not 7", value("not 7", 0), 1);
        Due.is("not binds a part", value("not 0 + 5", 6), 1);
        Due.is("not not", value("not not 5", 1), 1);
        Due.is("alone it is itself", value("5", 5), 1);
        Due.is("round in 32 bits", unitsOf("let b = 8192 * 8192 * 32; unit 1 each 60 when b < 0; ", false, 0, 1), 1);
        Due.is("round to 0", value("8192 * 8192 * 64", 0), 1);
        Due.is("as deep as can be", value(deepest(4), 1), 1);
        Due.is("as deep as can be, not met", value(deepest(4).replace("1 * 1", "1 * 0"), 0), 1);
        Due.is("names of names", unitsOf("let a = lasted; let b = a + a; let c = b * b - a; unit 3 each 60 when c = 0; unit 1 each 60 when b = 120 and c = 7170 + 7170;", false, 0, 120), 4);
        Due.is("a name between units", unitsOf("unit 1 each 60 when 60 < lasted; let a = lasted; unit 2 each 60 when a = 60;", false, 0, 181), 4);
    }
}
