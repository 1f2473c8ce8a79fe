/**
 * The limits of "3. TARIFF" and promises 12 to 14: the TAPE, the TOKENS, how many of each there may be, each FAULT and
 * its place, and the UNITS of a call.
 */
public final class EdgeTariffTest {
    private static final int NONE_OR_CANT_STAND = 1;
    private static final int NOT_TOLD = 2;
    private static final int TOLD_AGAIN = 3;
    private static final int WRONG_NUMBER = 4;
    private static final int TOO_MANY = 5;

    private static final String SIX = "let a=1;let b=2;let c=3;let d=4;let e=5;let f=6;";
    private static final String[] KEPT = {"zone", "hour", "day", "lasted", "units", "line", "let", "unit", "each",
        "when", "and", "or", "not"};
    private static final String[] WHOLE = {"let", "a", "=", "zone", "and", "1", ";", "unit", "2", "each", "30", "when",
        "not", "(", "hour", "+", "day", "-", "lasted", "*", "units", ")", "or", "line", "<", "3", ";"};

    public static void main(String[] args) {
        bytes();
        orderOfBytes();
        thousandSigns();
        thousandSignsRead();
        tapeIsTaken();
        blanks();
        words();
        numbers();
        signs();
        cutAnywhere();
        noneAnywhere();
        cantStand();
        sixteenLines();
        sixNames();
        keptWords();
        notTold();
        toldAgain();
        numbersTold();
        within();
        withinMixed();
        leastKind();
        firstFromTheLeft();
        inPlaceOfTheOneThatWas();
        nothingStaysOfAWrongOne();
        refused();
        Due.finish("EdgeTariffTest");
    }

    private static void right(String text, int lines, int names) {
        TownExchange x = new TownExchange();
        Due.is("tariff: " + text, Due.tariff(x, text), 0);
        Due.is("lines of: " + text, x.count(8), lines);
        Due.is("names of: " + text, x.count(9), names);
        Due.is("the tape is empty", x.count(10), 0);
    }

    private static void wrong(String text, int kind, int place) {
        TownExchange x = new TownExchange();
        Due.is("tariff: " + text, Due.tariff(x, text), kind + 16 * place);
        Due.is("no lines of: " + text, x.count(8), 0);
        Due.is("no names of: " + text, x.count(9), 0);
        Due.is("the tape is empty", x.count(10), 0);
    }

    /** Wrong at its last token, which is told apart. */
    private static void wrongAt(String ahead, String token, int kind) {
        wrong(ahead + token, kind, ahead.length());
    }

    /** Signs 10 and 32 .. 126; others are left out. */
    private static void bytes() {
        for (int sign = 0; sign < 256; sign++) {
            boolean kept = sign == 10 || sign >= 32 && sign <= 126;
            TownExchange x = new TownExchange();
            Due.is("sign " + sign + " highest", x.feed((long) sign << 56, 0, 0), kept ? 1 : 0);
            Due.is("sign " + sign + " lowest", x.feed(0, 0, sign), kept ? 2 : 0);
            Due.is("sign " + sign + " in the middle", x.feed(0, (long) sign << 24, 0), kept ? 3 : 0);
            Due.is("so many are there", x.count(10), kept ? 3 : 0);
        }
        Due.is("all bits are none", new TownExchange().feed(-1, -1, -1), 0);
        long eight = Due.pack("abcdefgh", 0);
        Due.is("24 signs", new TownExchange().feed(eight, eight, eight), 24);
        Due.is("none at all", new TownExchange().feed(0, 0, 0), 0);
    }

    /** The bytes of a, b, c, of each the highest first, come behind the TAPE. */
    private static void orderOfBytes() {
        TownExchange x = new TownExchange();
        Due.is("let ab=1", x.feed(Due.pack("let ab=1", 0), Due.pack(";let ba=", 0), Due.pack("2;unit 1", 0)), 24);
        Due.is("each", x.feed(Due.pack(" each 60", 0), Due.pack(" when ab", 0), Due.pack(";", 0)), 41);
        Due.is("read in order", x.tariff(), 0);
        Due.is("three lines", x.count(8), 3);
        x.feed(0x6c00650174021f03L, 0x7f20ff61803d8131L, 0x0d3b0b000c000000L);
        Due.is("what is left out is not between", x.tariff(), 0);
        Due.is("let a=1;", x.count(8) + x.count(9), 2);
    }

    private static TownExchange filled(int signs) {
        TownExchange x = new TownExchange();
        for (int left = signs; left > 0; left -= 24) {
            Due.feed(x, " ".repeat(Math.min(left, 24)));
        }
        return x;
    }

    /** The TAPE has at most 1,000 signs; what is beyond is left out. */
    private static void thousandSigns() {
        Due.is("999", filled(999).count(10), 999);
        Due.is("1000", filled(1000).count(10), 1000);
        Due.is("1001", filled(1001).count(10), 1000);
        Due.is("up to 1000", filled(999).feed(Due.pack("a", 0), 0, 0), 1000);
        Due.is("and no more", filled(999).feed(Due.pack("ab", 0), 0, 0), 1000);
        Due.is("beyond", filled(1000).feed(Due.pack("a", 0), 0, 0), 1000);
        Due.is("nothing", filled(1000).feed(0, 0, 0), 1000);
        TownExchange x = filled(1000);
        x.tariff();
        Due.is("empty then", x.feed(Due.pack("a", 0), 0, 0), 1);
    }

    private static void thousandSignsRead() {
        TownExchange x = filled(992);
        Due.is("to the last", Due.feed(x, "let a=1;"), 1000);
        Due.is("read to the last", x.tariff(), 0);
        x = filled(993);
        Due.is("one too many", Due.feed(x, "let a=1;"), 1000);
        Due.is("cut", x.tariff(), Due.fault(NONE_OR_CANT_STAND, 1000));
        x = filled(994);
        Due.is("two too many", Due.feed(x, "let a=12;"), 1000);
        Due.is("cut", x.tariff(), Due.fault(NONE_OR_CANT_STAND, 1000));
        x = filled(999);
        Due.feed(x, "@");
        Due.is("the last place", x.tariff(), Due.fault(NONE_OR_CANT_STAND, 999));
        x = filled(999);
        Due.feed(x, ";");
        Due.is("the last place", x.tariff(), Due.fault(NONE_OR_CANT_STAND, 999));
        x = filled(999);
        Due.feed(x, "\n@");
        Due.is("what is beyond is not read", x.tariff(), 0);
        x = new TownExchange();
        Due.feed(x, "let a=1" + "+1".repeat(496) + ";");
        Due.is("the longest expression", x.count(10), 1000);
        Due.is("the longest expression", x.tariff(), 0);
    }

    /** What reads the TAPE takes it: it is empty then. */
    private static void tapeIsTaken() {
        TownExchange x = new TownExchange();
        Due.feed(x, "let a=1;");
        Due.is("right", x.tariff(), 0);
        Due.is("empty", x.count(10), 0);
        Due.is("nothing to read", x.tariff(), 0);
        Due.feed(x, "let a=@");
        Due.is("wrong", x.tariff(), Due.fault(NONE_OR_CANT_STAND, 6));
        Due.is("empty", x.count(10), 0);
        Due.feed(x, "let b=1;");
        Due.is("places begin anew", x.tariff(), 0);
    }

    /** Blanks (10, 32) between TOKENS where one likes. */
    private static void blanks() {
        right("", 0, 0);
        right(" ", 0, 0);
        right("\n", 0, 0);
        right(String.join(" ", WHOLE), 2, 1);
        right(String.join("\n", WHOLE), 2, 1);
        right(" \n " + String.join(" \n\n ", WHOLE) + "\n \n", 2, 1);
        right("let a=zone and 1;unit 2each 30when not(hour+day-lasted*units)or line<3;", 2, 1);
        right("let a=zone and 1;unit2each30when not(hour+day-lasted*units)or line<3;", 2, 1);
        wrong("le t a=1;", NONE_OR_CANT_STAND, 0);
        wrong("let a=1;un it 1 each 60 when 1;", NONE_OR_CANT_STAND, 8);
        wrongAt("  \n", "@", NONE_OR_CANT_STAND);
        wrong("let a=1 2;", NONE_OR_CANT_STAND, 8);
        wrong("let a b=1;", NONE_OR_CANT_STAND, 6);
    }

    /** WORDS (letters a .. z, 8 at most), each as long as can be; a longer one is none at its first sign. */
    private static void words() {
        right("let a=1;", 1, 1);
        right("let z=1;", 1, 1);
        right("let abcdefgh=1;let c=abcdefgh;", 2, 2);
        wrong("let abcdefghi=1;", NONE_OR_CANT_STAND, 4);
        wrong("let " + "q".repeat(20) + "=1;", NONE_OR_CANT_STAND, 4);
        wrong("let abcdefgh=1;let c=abcdefghi;", NONE_OR_CANT_STAND, 21);
        wrong("let a=1;letb=1;", NONE_OR_CANT_STAND, 8);
        wrong("let a=1;let bb=1;let c=b;", NOT_TOLD, 23);
        wrong("let b=1;let c=bb;", NOT_TOLD, 14);
        wrong("let A=1;", NONE_OR_CANT_STAND, 4);
        wrong("let aB=1;", NONE_OR_CANT_STAND, 5);
        wrong("let `=1;", NONE_OR_CANT_STAND, 4);
        wrong("let {=1;", NONE_OR_CANT_STAND, 4);
        wrong("let a_b=1;", NONE_OR_CANT_STAND, 5);
        wrong("Let a=1;", NONE_OR_CANT_STAND, 0);
    }

    /** NUMBERS (1 to 4 digits; a letter may stand right behind); a longer one is none at its first sign. */
    private static void numbers() {
        right("let a=0;", 1, 1);
        right("let a=9;", 1, 1);
        right("let a=9999;", 1, 1);
        right("let a=0000;", 1, 1);
        right("let a=1and 2or 3;", 1, 1);
        right("let a=1234and 1234;", 1, 1);
        wrong("let a=10000;", NONE_OR_CANT_STAND, 6);
        wrong("let a=00000;", NONE_OR_CANT_STAND, 6);
        wrong("let a=123456789;", NONE_OR_CANT_STAND, 6);
        wrong("let a=1+12345and 1;", NONE_OR_CANT_STAND, 8);
        wrong("let a=1b;", NONE_OR_CANT_STAND, 7);
        wrong("let a=1 b;", NONE_OR_CANT_STAND, 8);
        wrong("let a=1/2;", NONE_OR_CANT_STAND, 7);
        wrong("let a=1:2;", NONE_OR_CANT_STAND, 7);
        wrong("let a=1.5;", NONE_OR_CANT_STAND, 7);
    }

    /** The signs ( ) < = + - * and the semicolon; all else is none. */
    private static void signs() {
        for (int sign = 33; sign <= 126; sign++) {
            char c = (char) sign;
            String text = "let a=" + c;
            if (c >= '0' && c <= '9' || c == '(') {
                wrong(text, NONE_OR_CANT_STAND, 7);
            } else if (c >= 'a' && c <= 'z') {
                wrong(text, NOT_TOLD, 6);
            } else {
                wrong(text, NONE_OR_CANT_STAND, 6);
            }
            boolean joins = "<=+-*".indexOf(c) >= 0;
            boolean more = c >= '0' && c <= '9';
            if (more || c == ';') {
                right("let a=1" + c + (more ? ";" : ""), 1, 1);
            } else {
                wrong("let a=1" + c, NONE_OR_CANT_STAND, joins ? 8 : 7);
            }
        }
    }

    /** The end is a token at the text's length: it can't stand but behind a line. */
    private static void cutAnywhere() {
        StringBuilder text = new StringBuilder();
        for (int i = 0; i < WHOLE.length; i++) {
            text.append(i == 0 ? "" : " ").append(WHOLE[i]);
            if (WHOLE[i].equals(";")) {
                right(text.toString(), i == WHOLE.length - 1 ? 2 : 1, 1);
            } else {
                wrong(text.toString(), NONE_OR_CANT_STAND, text.length());
                wrong(text + " \n ", NONE_OR_CANT_STAND, text.length() + 3);
            }
        }
    }

    /** What is none is so wherever it stands. */
    private static void noneAnywhere() {
        String[] none = {"@", "A", "12345", "abcdefghi", "!", "~", ",", "{", ">", "\"", "/"};
        StringBuilder text = new StringBuilder();
        for (String token : WHOLE) {
            for (String n : none) {
                wrongAt(text.toString(), n, NONE_OR_CANT_STAND);
            }
            text.append(token).append(' ');
        }
    }

    /** What can't stand there: a kept word, a sign, a number or a name in the wrong place. */
    private static void cantStand() {
        String[] lines = {"a", "1", ";", "(", "=", "each", "when", "not", "zone", "and", "line", "units"};
        for (String token : lines) {
            wrongAt("", token, NONE_OR_CANT_STAND);
            wrongAt("let a=1; ", token, NONE_OR_CANT_STAND);
        }
        String[] parts = {";", ")", "<", "=", "+", "-", "*", "let", "unit", "each", "when", "and", "or"};
        for (String token : parts) {
            wrongAt("let a= ", token, NONE_OR_CANT_STAND);
            wrongAt("let a=1+ ", token, NONE_OR_CANT_STAND);
            wrongAt("let a=1 or ", token, NONE_OR_CANT_STAND);
            wrongAt("let a=not ", token, NONE_OR_CANT_STAND);
            wrongAt("unit 1 each 30 when ( ", token, NONE_OR_CANT_STAND);
        }
        String[] behind = {"1", "zone", "(", "not", "let", "unit", "each", "when", "a"};
        for (String token : behind) {
            wrongAt("let b=1 ", token, NONE_OR_CANT_STAND);
            wrongAt("let a=1;let b=(a) ", token, NONE_OR_CANT_STAND);
        }
        String[] compared = {"1<2", "1=2", "1+1<2*2"};
        for (String c : compared) {
            wrongAt("let b=" + c + " ", "<", NONE_OR_CANT_STAND);
            wrongAt("let b=" + c + " ", "=", NONE_OR_CANT_STAND);
            wrongAt("let b=(" + c + ")=(" + c + ") ", "<", NONE_OR_CANT_STAND);
        }
        wrongAt("let b=1 ", ")", NONE_OR_CANT_STAND);
        wrongAt("let b=(1) ", ")", NONE_OR_CANT_STAND);
        wrongAt("let b=(1 ", ";", NONE_OR_CANT_STAND);
        cantStandInUnit();
    }

    private static void cantStandInUnit() {
        String[] notNumbers = {"a", "each", "zone", "-", "(", ";", "unit"};
        for (String token : notNumbers) {
            wrongAt("unit ", token, NONE_OR_CANT_STAND);
            wrongAt("unit 1 each ", token, NONE_OR_CANT_STAND);
        }
        String[] notEach = {"when", "eac", "1", ";", "a", "unit", "="};
        for (String token : notEach) {
            wrongAt("unit 1 ", token, NONE_OR_CANT_STAND);
        }
        String[] notWhen = {"each", "whe", "1", ";", "a", "unit", "="};
        for (String token : notWhen) {
            wrongAt("unit 1 each 30 ", token, NONE_OR_CANT_STAND);
        }
        String[] notEqual = {"1", "a", "<", ";", "let", "(", "zone"};
        for (String token : notEqual) {
            wrongAt("let a ", token, NONE_OR_CANT_STAND);
        }
    }

    /** TARIFF: 16 lines at most: the first token of one more is too many. */
    private static void sixteenLines() {
        String unit = "unit 1 each 60 when 1;";
        for (int lines = 14; lines <= 16; lines++) {
            right(unit.repeat(lines), lines, 0);
            right(SIX + unit.repeat(lines - 6), lines, 6);
        }
        String sixteen = unit.repeat(10) + SIX;
        right(sixteen + " \n", 16, 6);
        wrong(sixteen + unit, TOO_MANY, sixteen.length());
        wrong(sixteen + " \n let a=1;", TOO_MANY, sixteen.length() + 3);
        wrongAt(sixteen, "unit", TOO_MANY);
        wrongAt(sixteen, "let", TOO_MANY);
        wrongAt(sixteen, "lets", NONE_OR_CANT_STAND);
        wrongAt(sixteen, ";", NONE_OR_CANT_STAND);
        wrongAt(sixteen, "1", NONE_OR_CANT_STAND);
        wrongAt(sixteen, "@", NONE_OR_CANT_STAND);
        wrong(unit.repeat(17), TOO_MANY, 16 * unit.length());
        wrong(unit.repeat(30), TOO_MANY, 16 * unit.length());
        wrong(unit.repeat(15) + "unit 1 each 60 when", NONE_OR_CANT_STAND, 15 * unit.length() + 19);
    }

    /** 6 NAMES at most: a seventh is too many. */
    private static void sixNames() {
        right(SIX, 6, 6);
        right(SIX + "unit 1 each 60 when a+b+c+d+e+f;", 7, 6);
        wrong(SIX + "let g=1;", TOO_MANY, SIX.length() + 4);
        wrong(SIX + "unit 1 each 60 when 1;let g=1;", TOO_MANY, SIX.length() + 26);
        wrongAt(SIX + "let ", "g", TOO_MANY);
        wrongAt(SIX + "let ", "abcdefgh", TOO_MANY);
        wrongAt(SIX + "let ", "abcdefghi", NONE_OR_CANT_STAND);
        wrongAt(SIX + "let ", "f", TOLD_AGAIN);
        wrongAt(SIX + "let ", "zone", NONE_OR_CANT_STAND);
        wrongAt(SIX + "let ", ";", NONE_OR_CANT_STAND);
    }

    /** A NAME is another WORD than those of the language; what only begins or ends like one is a NAME. */
    private static void keptWords() {
        for (String word : KEPT) {
            wrongAt("let ", word, NONE_OR_CANT_STAND);
            right("let " + word + "x=1;let x" + word + "=" + word + "x;", 2, 2);
            String shorter = word.equals("units") ? "unitz" : word.substring(0, word.length() - 1);
            right("let " + shorter + "=1;", 1, 1);
            right("let " + word.substring(1) + "=1;", 1, 1);
            for (int i = 0; i < word.length(); i++) {
                String other = word.substring(0, i) + "q" + word.substring(i + 1);
                right("let " + other + "=1;", 1, 1);
                wrongAt("let a=", other, NOT_TOLD);
                wrongAt("", other, NONE_OR_CANT_STAND);
            }
        }
        String[] values = {"zone", "hour", "day", "lasted", "units", "line"};
        for (String word : values) {
            right("let a=" + word + ";", 1, 1);
            wrong("let a=" + word + "x;", NOT_TOLD, 6);
        }
    }

    /** 2: a NAME that is not told (ahead). */
    private static void notTold() {
        wrongAt("let a=", "b", NOT_TOLD);
        wrong("let a=b;let b=1;", NOT_TOLD, 6);
        wrong("let a=a;", NOT_TOLD, 6);
        wrong("let a=1+a;", NOT_TOLD, 8);
        wrong("unit 1 each 60 when x;", NOT_TOLD, 20);
        wrong("let a=1;unit 1 each 60 when a and ab;", NOT_TOLD, 34);
        wrong("let a=1;let b=a+a*(a-b);", NOT_TOLD, 21);
        wrong("let a=not b;", NOT_TOLD, 10);
        right("let a=1;let b=a;let c=b;let d=c;", 4, 4);
        TownExchange x = new TownExchange();
        Due.is("told", Due.tariff(x, "let a=1;"), 0);
        Due.is("told in the tariff ahead", Due.tariff(x, "let b=a;"), Due.fault(NOT_TOLD, 6));
        Due.is("told anew", Due.tariff(x, "let a=1;"), 0);
        Due.is("told in a wrong one", Due.tariff(x, "let c=1;@"), Due.fault(NONE_OR_CANT_STAND, 8));
        Due.is("not told then", Due.tariff(x, "let b=c;"), Due.fault(NOT_TOLD, 6));
    }

    /** 3: one that is told, told again. */
    private static void toldAgain() {
        wrongAt("let a=1;let ", "a", TOLD_AGAIN);
        wrong("let a=1;let a=1;", TOLD_AGAIN, 12);
        wrong("let a=1;let b=1;let a=1;", TOLD_AGAIN, 20);
        wrong("let a=1;unit 1 each 60 when 1;let a=1;", TOLD_AGAIN, 34);
        wrong("let abcdefgh=1;let abcdefgh=2;", TOLD_AGAIN, 19);
        right("let abcdefgh=1;let abcdefg=2;let bcdefgh=3;let hgfedcba=4;", 4, 4);
    }

    /** 4: a NUMBER that is not as told: unit 0 to 99, each 30 to 9999; others are as they like. */
    private static void numbersTold() {
        right("unit 0 each 30 when 0;", 1, 0);
        right("unit 99 each 9999 when 9999;", 1, 0);
        right("unit 0000 each 0030 when 1;", 1, 0);
        right("unit 0099 each 031 when 1;", 1, 0);
        wrongAt("unit ", "100", WRONG_NUMBER);
        wrongAt("unit ", "0100", WRONG_NUMBER);
        wrongAt("unit ", "9999", WRONG_NUMBER);
        wrongAt("unit ", "10000", NONE_OR_CANT_STAND);
        wrongAt("unit 1 each ", "29", WRONG_NUMBER);
        wrongAt("unit 1 each ", "0", WRONG_NUMBER);
        wrongAt("unit 1 each ", "0029", WRONG_NUMBER);
        wrongAt("unit 1 each ", "10000", NONE_OR_CANT_STAND);
        wrong("unit 100 each 29 when 1;", WRONG_NUMBER, 5);
        wrong("unit 100 @", WRONG_NUMBER, 5);
        wrong("unit 100", WRONG_NUMBER, 5);
    }

    /** 5: not, or a PART, within 5 others: every kind of PART, behind every four or five of not and ( ). */
    private static void within() {
        String[] parts = {"1", "zone", "hour", "day", "lasted", "units", "line", "n", "not", "("};
        for (int kinds = 0; kinds < 32; kinds++) {
            StringBuilder ahead = new StringBuilder("let n=1;let a=");
            for (int i = 0; i < 5; i++) {
                ahead.append((kinds >> i & 1) == 0 ? "(" : "not ");
            }
            for (String part : parts) {
                wrongAt(ahead.toString(), part, TOO_MANY);
            }
            wrongAt(ahead.toString().replace("let a=", "unit 1 each 30 when "), "1", TOO_MANY);
            wrongAt(ahead.toString(), "m", NOT_TOLD);
            wrongAt(ahead.toString(), ")", NONE_OR_CANT_STAND);
            wrongAt(ahead.toString(), "and", NONE_OR_CANT_STAND);
            wrongAt(ahead.toString(), "", NONE_OR_CANT_STAND);
        }
        for (int kinds = 0; kinds < 16; kinds++) {
            String open = "";
            String close = "";
            for (int i = 0; i < 4; i++) {
                open += (kinds >> i & 1) == 0 ? "(" : "not ";
                close += (kinds >> i & 1) == 0 ? ")" : "";
            }
            for (int i = 0; i < 8; i++) {
                right("let n=1;let a=" + open + parts[i] + close + ";", 2, 2);
                right("let n=1;unit 1 each 30 when " + open + parts[i] + close + ";", 2, 1);
            }
        }
    }

    /** Within counts what is open: what is closed again, and what stands beside, is not within. */
    private static void withinMixed() {
        right("let a=((((1))))+((((2))))*((((3))));", 1, 1);
        right("let a=(((( 1 + 2 < 3 and 4 or 5 * 6 ))));", 1, 1);
        right("let a=not not not not 1 * not not not not 2;", 1, 1);
        right("let a=not not not not 1;let b=not not not not a;", 2, 2);
        right("let a=(1)+(2)+(3)+(4)+(5)+(6)+(7);", 1, 1);
        right("let a=(((1)+(2))*((3)-(4)))<((5));", 1, 1);
        right("let a=not(not(1))+not(not(2));", 1, 1);
        wrong("let a=((((1+(2)))));", TOO_MANY, 13);
        wrong("let a=((((1)+(2+(3)))));", TOO_MANY, 17);
        wrong("let a=((((not 1))));", TOO_MANY, 14);
        wrong("let a=not(not(not 1));", TOO_MANY, 18);
        wrong("let a=((((1))))+(((((2)))));", TOO_MANY, 21);
        wrong("let a=not not not not 1 * not not not not not 2;", TOO_MANY, 46);
    }

    /** Of one token the least kind is told. */
    private static void leastKind() {
        String deep = "let n=1;let a=(((((";
        wrongAt(deep, "@", NONE_OR_CANT_STAND);
        wrongAt(deep, "12345", NONE_OR_CANT_STAND);
        wrongAt(deep, "a", NOT_TOLD);
        wrongAt(deep, "n", TOO_MANY);
        wrongAt(deep, "each", NONE_OR_CANT_STAND);
        wrongAt(SIX + "let ", "a", TOLD_AGAIN);
        wrongAt(SIX + "let ", "not", NONE_OR_CANT_STAND);
        wrongAt(SIX + "unit 1 each 60 when ", "g", NOT_TOLD);
        wrongAt("unit 1 each 60 when 1;".repeat(16), "each", NONE_OR_CANT_STAND);
        wrongAt(SIX + "unit 1 each 60 when 1;".repeat(10), "let g", TOO_MANY);
    }

    /** Of the first token from the left that is wrong, whatever comes behind it. */
    private static void firstFromTheLeft() {
        wrong("let a=b;let a=1;@", NOT_TOLD, 6);
        wrong("let a=1;let a=@", TOLD_AGAIN, 12);
        wrong("unit 100 each 1 whe @", WRONG_NUMBER, 5);
        wrong("unit 1 each 1 whe @", WRONG_NUMBER, 12);
        wrong("let a=@ let let", NONE_OR_CANT_STAND, 6);
        wrong("let a=(((((1 @", TOO_MANY, 11);
        wrong("let a=((((((b", TOO_MANY, 11);
        wrong("let a=1 let b=c;", NONE_OR_CANT_STAND, 8);
        wrong(SIX + "let g=h;", TOO_MANY, SIX.length() + 4);
        wrong(SIX + "let a=h;", TOLD_AGAIN, SIX.length() + 4);
    }

    private static int unitsOfOneSecond(TownExchange x) {
        Due.call(x, 0, "9000");
        x.answer(0);
        x.seconds(1);
        return x.end(0);
    }

    /** tariff: in place of the one there was; a wrong one is not. */
    private static void inPlaceOfTheOneThatWas() {
        TownExchange x = Due.small();
        Due.is("none at first", unitsOfOneSecond(x), 0);
        Due.is("right", Due.tariff(x, "let a=7;unit 7 each 60 when a=7;"), 0);
        Due.is("its units", unitsOfOneSecond(x), 7);
        String[] wrongOnes = {"@", "let a=8;unit 8 each 60 when b;", "unit 9 each 60 when 1;unit 100 each 60 when 1;",
            "let a=0;let a=1;", SIX + "let g=1;", "unit 3 each 60 when 1;".repeat(17),
            "unit 4 each 60 when ((((((1))))));"};
        for (String wrong : wrongOnes) {
            Due.is("wrong: " + wrong, Due.tariff(x, wrong) > 0, true);
            Due.is("the old one's units", unitsOfOneSecond(x), 7);
            Due.is("the old one's lines", x.count(8), 2);
            Due.is("the old one's names", x.count(9), 1);
        }
        Due.is("another", Due.tariff(x, "unit 5 each 60 when 1;"), 0);
        Due.is("its units", unitsOfOneSecond(x), 5);
        Due.is("its lines", x.count(8), 1);
        Due.is("its names", x.count(9), 0);
        Due.is("an empty one", x.tariff(), 0);
        Due.is("has no units", unitsOfOneSecond(x), 0);
        Due.is("has no lines", x.count(8), 0);
    }

    private static void nothingStaysOfAWrongOne() {
        String[] wrongOnes = {"let z=0;@", "let z=1;@", "unit 1 each 60 when 0;@", "unit 1 each 60 when 1;@",
            "let z=2+3*", "@"};
        for (String first : wrongOnes) {
            for (String second : wrongOnes) {
                TownExchange x = Due.small();
                Due.tariff(x, first);
                Due.tariff(x, second);
                Due.is("not met", Due.tariff(x, "let y=0;unit 2 each 60 when y;unit 3 each 60 when 1;"), 0);
                Due.is("its names", x.count(9), 1);
                Due.is("its lines", x.count(8), 3);
                Due.is("its units", unitsOfOneSecond(x), 3);
                Due.tariff(x, first);
                Due.is("its units still", unitsOfOneSecond(x), 3);
                Due.is("met", Due.tariff(x, "let z=1;unit 4 each 60 when z;unit 5 each 60 when 1;"), 0);
                Due.is("its units", unitsOfOneSecond(x), 4);
            }
        }
    }

    private static TownExchange townWithAnEmptyTape() {
        TownExchange x = Refused.town();
        x.tariff();
        return x;
    }

    /** What is wrong has changed nothing; of a full tape no sign is changed. */
    private static void refused() {
        Refused town = new Refused(EdgeTariffTest::townWithAnEmptyTape);
        town.is("a wrong tariff", x -> Due.tariff(x, "unit 9 each 30 when 1;let b"), Due.fault(NONE_OR_CANT_STAND, 27));
        town.is("six names and one", x -> Due.tariff(x, SIX + "let g"), Due.fault(TOO_MANY, SIX.length() + 4));
        town.is("signs that are none", x -> x.feed(-1, 0x0101010101010101L, 0x8080808080808080L), 0);
        Refused full = new Refused(() -> {
            TownExchange x = townWithAnEmptyTape();
            Due.feed(x, "let a=1;" + " ".repeat(991) + "@");
            return x;
        });
        full.is("beyond 1,000", x -> Due.feed(x, "let a=1;let b=2;let c=4;"), 1000);
    }
}
