/** UNITS of a call: when they are added, what an E tells, 32 bits, and which TARIFF counts: promises 11, 12, 14. */
public final class EdgeUnitsTest {
    private static final String LEAST = "let m=4096*4096*128;";

    public static void main(String[] args) {
        whileBelow();
        stepsOfEach();
        stepsWithout();
        firstLineThatIsNotNought();
        noughtUnits();
        zones();
        hourGoesOn();
        dayGoesOn();
        lasted();
        unitsSoFar();
        lineNumber();
        names();
        wrapAround();
        compared();
        andOrNot();
        ranksOfSigns();
        tariffOfTheEnd();
        onlyAnswered();
        Due.finish("EdgeUnitsTest");
    }

    /** The UNITS of a call by line 0, over junction 0 or to line 1, answered at a second, ended so many seconds on. */
    private static int units(String text, String digits, int from, int seconds) {
        TownExchange x = Due.small();
        x.zone(0, 9);
        Due.is("read: " + text, Due.tariff(x, text), 0);
        Due.pass(x, from);
        Due.call(x, 0, digits);
        Due.is("answered", x.answer(0), true);
        Due.pass(x, seconds);
        return x.end(0);
    }

    private static void due(String text, int seconds, int want) {
        Due.is(text + " for " + seconds, units(text, "411", 0, seconds), want);
        Due.is(text + " for " + seconds + ", later", units(text, "411", 4321, seconds), want);
    }

    /** From t = t0 on, while t is below t1. */
    private static void whileBelow() {
        String text = "unit 7 each 30 when 1;";
        int[][] units = {{0, 0}, {1, 7}, {29, 7}, {30, 7}, {31, 14}, {59, 14}, {60, 14}, {61, 21}, {300, 70},
            {301, 77}};
        for (int[] u : units) {
            due(text, u[0], u[1]);
        }
    }

    /** t goes on by its each: 30 to 9999. */
    private static void stepsOfEach() {
        due("unit 99 each 9999 when 1;", 9999, 99);
        due("unit 99 each 9999 when 1;", 10000, 198);
        due("unit 1 each 45 when lasted<90;unit 10 each 100 when 1;", 90, 2);
        due("unit 1 each 45 when lasted<90;unit 10 each 100 when 1;", 91, 12);
        due("unit 1 each 45 when lasted<90;unit 10 each 100 when 1;", 190, 12);
        due("unit 1 each 45 when lasted<90;unit 10 each 100 when 1;", 191, 22);
        Due.is("from the first second to the last", units("unit 99 each 30 when 1;", "411", 0, 999999), 99 * 33334);
        Due.is("at the last second", units("unit 99 each 30 when 1;", "411", 999999, 0), 0);
        Due.is("up to the last second", units("unit 99 each 30 when 1;", "411", 999998, 1), 99);
    }

    /** Without one t goes on by 60. */
    private static void stepsWithout() {
        due("", 1000, 0);
        due("let a=1;", 1000, 0);
        due("unit 9 each 30 when 0;", 1000, 0);
        due("unit 1 each 30 when lasted=60;", 60, 0);
        due("unit 1 each 30 when lasted=60;", 61, 1);
        due("unit 1 each 30 when lasted=59;unit 2 each 30 when lasted=61;", 200, 0);
        due("unit 1 each 30 when 59<lasted;", 90, 1);
        due("unit 1 each 30 when 59<lasted;", 91, 2);
        due("unit 1 each 30 when 60<lasted;", 120, 0);
        due("unit 1 each 30 when 60<lasted;", 121, 1);
    }

    /** The first unit line whose E is not 0 adds its units. */
    private static void firstLineThatIsNotNought() {
        due("unit 1 each 60 when 0;unit 2 each 60 when 1;unit 3 each 60 when 1;", 1, 2);
        due("unit 1 each 60 when 2;unit 2 each 60 when 1;", 1, 1);
        due("unit 1 each 60 when 9999;unit 2 each 60 when 1;", 1, 1);
        due("unit 1 each 60 when 0-1;unit 2 each 60 when 1;", 1, 1);
        due("unit 1 each 60 when 1-1;unit 2 each 60 when 1;", 1, 2);
        due("unit 1 each 60 when 0;".repeat(15) + "unit 2 each 60 when 1;", 1, 2);
        due("let a=0;unit 1 each 60 when a;let b=1;unit 2 each 60 when b;let c=1;unit 3 each 60 when c;", 1, 2);
    }

    /** unit: 0 to 99: a line that adds nothing is met all the same. */
    private static void noughtUnits() {
        due("unit 0 each 100 when lasted<100;unit 1 each 60 when 1;", 100, 0);
        due("unit 0 each 100 when lasted<100;unit 1 each 60 when 1;", 101, 1);
        due("unit 0 each 30 when 1;unit 9 each 30 when 1;", 500, 0);
    }

    /** zone: of its JUNCTION, 0 without one. */
    private static void zones() {
        Due.is("0 without one", units("unit 1 each 60 when zone=0;unit 2 each 60 when 1;", "411", 0, 1), 1);
        Due.is("of its junction", units("unit 1 each 60 when zone=9;unit 2 each 60 when 1;", "9000", 0, 1), 1);
        for (int zone = 1; zone <= 9; zone++) {
            TownExchange x = Due.small();
            Due.tariff(x, "unit 1 each 60 when zone=" + zone + ";unit 50 each 60 when 1;");
            x.outlet(0, 0, 8, 0, 115);
            x.zone(15, zone);
            x.zone(0, 10 - zone == zone ? 1 : 10 - zone);
            Due.call(x, 0, "8000");
            x.answer(0);
            x.seconds(1);
            Due.is("zone " + zone, x.end(0), 1);
        }
    }

    /** hour: of t, not of t0 or t1. */
    private static void hourGoesOn() {
        String text = "unit 1 each 60 when hour=0;unit 10 each 60 when hour=1;";
        Due.is("up to the hour", units(text, "411", 3540, 60), 1);
        Due.is("into the hour", units(text, "411", 3540, 61), 11);
        Due.is("a second ahead", units(text, "411", 3599, 61), 11);
        Due.is("at the hour", units(text, "411", 3600, 61), 20);
        String night = "unit 1 each 60 when hour=23;unit 10 each 60 when hour=0;";
        Due.is("round to 0", units(night, "411", 86399, 61), 11);
        Due.is("at 0", units(night, "411", 86400, 60), 10);
        Due.is("ahead of 23", units(night, "411", 82799, 61), 1);
    }

    /** day (modulo 7): of t. */
    private static void dayGoesOn() {
        String text = "unit 1 each 60 when day=6;unit 10 each 60 when day=0;";
        Due.is("day 6", units(text, "411", 7 * 86400 - 60, 60), 1);
        Due.is("day 7 is 0", units(text, "411", 7 * 86400 - 60, 61), 11);
        Due.is("day 7", units(text, "411", 7 * 86400, 1), 10);
        Due.is("ahead of day 6", units(text, "411", 6 * 86400 - 1, 61), 1);
        Due.is("day 0", units(text, "411", 86399, 1), 10);
        Due.is("day 1", units(text, "411", 86400, 1), 0);
        Due.is("day 11 is 4", units("unit 3 each 60 when day=4;", "411", 999998, 1), 3);
        Due.is("day 10 is 3", units("unit 3 each 60 when day=3;", "411", 950399, 1), 3);
    }

    /** lasted: t - t0. */
    private static void lasted() {
        due("unit 1 each 60 when lasted=0;", 1, 1);
        due("unit 1 each 60 when lasted=0;", 500, 1);
        due("unit 1 each 31 when lasted=0 or lasted=31 or lasted=62;", 63, 3);
        due("unit 1 each 31 when lasted=0 or lasted=31 or lasted=62;", 62, 2);
    }

    /** units: so far. */
    private static void unitsSoFar() {
        due("unit 3 each 60 when units=0;unit 5 each 60 when units=3;unit 7 each 60 when units=8;", 180, 15);
        due("unit 99 each 30 when units<198;", 1000, 198);
        due("unit 99 each 30 when units<199;", 1000, 297);
        TownExchange x = Due.small();
        Due.tariff(x, "unit 4 each 60 when units=0;");
        for (int i = 0; i < 3; i++) {
            Due.call(x, 0, "9000");
            x.answer(0);
            x.seconds(200);
            Due.is("of each call by itself", x.end(0), 4);
        }
    }

    /** line: the LINE's number, 0 to 39. */
    private static void lineNumber() {
        for (int caller = 0; caller < 40; caller += 13) {
            TownExchange x = new TownExchange();
            x.rack(0, 1, 1);
            x.rack(1, 1, 1);
            x.outlet(0, 0, 9, 0, 100);
            for (int i = 0; i < 40; i++) {
                x.line(0, 1, 99 - i);
            }
            Due.tariff(x, "unit 1 each 60 when line=" + caller + ";unit 9 each 60 when 1;");
            Due.call(x, caller, "9000");
            x.answer(caller);
            x.seconds(1);
            Due.is("line " + caller, x.end(caller), 1);
        }
    }

    /** A NAME tells its E's number of now. */
    private static void names() {
        due("let a=lasted;let b=units+a;unit 1 each 60 when b=0;unit 2 each 60 when b=61 or b=123;", 121, 5);
        due("let a=0-5;let b=a*a;unit 25 each 60 when b=25;", 1, 25);
        due("let a=1;let b=a+a;let c=b+b;let d=c+c;let e=d+d;let f=e+e;unit 32 each 60 when f=32;", 1, 32);
        due("unit 1 each 60 when lasted<60;let a=lasted;unit 2 each 60 when a=60;let b=a+units;"
                + "unit 3 each 60 when b=123;", 181, 6);
    }

    private static void tells(String e, boolean notNought) {
        due(LEAST + "unit 1 each 60 when " + e + ";", 1, notNought ? 1 : 0);
    }

    /** Numbers go round in 32 bits. m is the least number. */
    private static void wrapAround() {
        tells("m<0", true);
        tells("0<m-1", true);
        tells("m-1+1=m", true);
        tells("0-m=m", true);
        tells("m+m", false);
        tells("m*2", false);
        tells("m*3=m", true);
        tells("4096*4096*256", false);
        tells("(m-1)*(m-1)=1", true);
        tells("(m-1)*2=0-2", true);
        tells("(m-1)+(m-1)+2", false);
        tells("m-m", false);
        tells("9999*9999<0", false);
        tells("9999*9999*9999<0", true);
    }

    /** <, = tell 1 or 0; less is so in all 32 bits. */
    private static void compared() {
        tells("1<1", false);
        tells("1<2", true);
        tells("2<1", false);
        tells("m<m-1", true);
        tells("m-1<m", false);
        tells("0-1<0", true);
        tells("0<0-1", false);
        tells("1=1", true);
        tells("1=2", false);
        tells("(3<4)=1", true);
        tells("(4<3)=0", true);
        tells("(7=7)=1", true);
        tells("(7=8)=0", true);
        tells("(1<2)+(3=3)=2", true);
    }

    /** "and", "or" tell 1 or 0, not 1 of 0, else 0. */
    private static void andOrNot() {
        int[] numbers = {0, 1, 2, 9999};
        for (int a : numbers) {
            tells("not " + a + "=" + (a == 0 ? 1 : 0), true);
            tells("not (0-" + a + ")=" + (a == 0 ? 1 : 0), true);
            tells("not not " + a + "=" + (a == 0 ? 0 : 1), true);
            for (int b : numbers) {
                tells("(" + a + " and " + b + ")=" + (a != 0 && b != 0 ? 1 : 0), true);
                tells("(" + a + " or " + b + ")=" + (a != 0 || b != 0 ? 1 : 0), true);
                tells("(0-" + a + " and 0-" + b + ")=" + (a != 0 && b != 0 ? 1 : 0), true);
                tells("(0-" + a + " or 0-" + b + ")=" + (a != 0 || b != 0 ? 1 : 0), true);
            }
        }
        tells("1 and 2", true);
        tells("(1 and 2)=2", false);
        tells("(m and m)=1", true);
        tells("(m or 0)=1", true);
        tells("not m", false);
    }

    /** TERM within SUM within TEST within E; and, or go from the left alike. */
    private static void ranksOfSigns() {
        tells("2+3*4=14", true);
        tells("2*3+4=10", true);
        tells("10-4-3=3", true);
        tells("10-4+3=9", true);
        tells("2*3*4=24", true);
        tells("1 or 1 and 0", false);
        tells("0 and 0 or 1", true);
        tells("1 or 0 and 0 or 0", false);
        tells("1<2 and 2<3", true);
        tells("1 and 2<1", false);
        tells("not 1+1", true);
        tells("not 1*0=0", true);
        tells("not 0*5=5", true);
        tells("not (1+1)", false);
        tells("not 1=0", true);
        tells("not (1=0)", true);
        tells("not 0=0", false);
    }

    /** The TARIFF is that of the second t1, as a whole; none at first. */
    private static void tariffOfTheEnd() {
        TownExchange x = Due.small();
        Due.call(x, 0, "9000");
        x.answer(0);
        x.seconds(600);
        Due.tariff(x, "unit 2 each 60 when 1;");
        Due.is("none at first, one at the end", x.end(0), 20);
        Due.call(x, 0, "9000");
        x.answer(0);
        x.seconds(600);
        x.tariff();
        Due.is("one at first, none at the end", x.end(0), 0);
        Due.tariff(x, "unit 1 each 60 when 1;");
        Due.call(x, 0, "9000");
        x.answer(0);
        x.seconds(300);
        Due.tariff(x, "unit 10 each 60 when hour=0;");
        x.seconds(1);
        Due.is("another at the end", x.end(0), 60);
        Due.is("what is written stays", x.book(0, 1), 20);
        Due.is("what is written stays", x.book(1, 1), 0);
    }

    /** end: 0 if it was not ANSWERED; UNITS count from the second when it was, not from RUNG. */
    private static void onlyAnswered() {
        TownExchange x = Due.small();
        Due.tariff(x, "unit 1 each 60 when 1;");
        Due.call(x, 0, "411");
        x.seconds(600);
        Due.is("rung only", x.end(0), 0);
        Due.call(x, 0, "411");
        x.seconds(600);
        x.answer(0);
        Due.is("answered at 1200", x.look(0, 5), 1200);
        x.seconds(60);
        Due.is("from then on", x.end(0), 1);
        Due.call(x, 0, "411");
        x.answer(0);
        Due.is("no second", x.end(0), 0);
        Due.is("all that were answered are in the book", x.count(5), 2);
    }
}
