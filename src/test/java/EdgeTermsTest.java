/**
 * The limits of "Terms" and promises 1 to 8: the last value that is allowed and the first that is not, what is empty
 * and what is full, and that what is refused has changed nothing.
 */
public final class EdgeTermsTest {
    private static final int NONE = TownExchange.NONE;

    public static void main(String[] args) {
        newObject();
        newObjectHasNoLines();
        now();
        days();
        hours();
        rackRanges();
        twelveRacks();
        switchNames();
        sectionsOfSwitches();
        outletRanges();
        outletEnds();
        outletsAtFirst();
        outletsAnew();
        zones();
        lineRanges();
        numbersOnce();
        fortyLines();
        outAndFaulty();
        notOutNotFaultyAtFirst();
        refused();
        refusedWhenFull();
        Due.finish("EdgeTermsTest");
    }

    /** Promise 1: no RACK, no LINE, no TARIFF; NOW is 0. */
    private static void newObject() {
        TownExchange x = new TownExchange();
        for (int what = 0; what <= 12; what++) {
            Due.is("new: count " + what, x.count(what), 0);
        }
        Due.is("new: outlet", x.outlet(0, 0, 0, 0, 100), false);
        Due.is("new: outlet to nowhere", x.outlet(0, 0, 0, 0, NONE), false);
        Due.is("new: out", x.out(0, true), false);
        Due.is("new: faulty", x.faulty(0, true), false);
        Due.is("new: sure", x.sure(0), NONE);
        Due.is("new: held 0", x.held(0), NONE);
        Due.is("new: lost", x.lost(0, 0, 1), NONE);
        Due.is("new: more", x.more(0, 0, 1, 1000), NONE);
        Due.is("new: forget", x.forget(), 0);
        Due.is("new: explain 0", x.explain(0), 0);
        Due.is("new: explain 1", x.explain(1), NONE);
        Due.is("new: word", x.word(0, 0), false);
        Due.is("new: book", x.book(0, 0), NONE);
        Due.is("new: an empty tape", x.tariff(), 0);
        Due.is("new: junctions are there", x.held(100), NONE);
        Due.is("new: they have zones", x.zone(15, 9), true);
        Due.is("new: rack", x.rack(0, 1, 1), 0);
    }

    private static void newObjectHasNoLines() {
        TownExchange x = new TownExchange();
        Due.is("no line: line", x.line(0, 0, 0), NONE);
        Due.is("no line: lift", x.lift(0), NONE);
        Due.is("no line: dial", x.dial(0, 0), NONE);
        Due.is("no line: answer", x.answer(0), false);
        Due.is("no line: end", x.end(0), NONE);
        Due.is("no line: bill", x.bill(0, 0, 0, 0), NONE);
        Due.is("no line: would", x.would(0, 0, 1), NONE);
        Due.is("no line: block", x.block(0, 0, 1, 1, 0, 1), NONE);
        Due.is("no line: laid", x.laid(0, 0, 1, 0), NONE);
        Due.is("no line: test", x.test(0, 0, 1), NONE);
        Due.is("no line: path", x.path(0, 0), NONE);
        Due.lookThrows("no line: look", x, 0, 0);
    }

    private static TownExchange at(int second) {
        TownExchange x = Due.small();
        Due.pass(x, second);
        return x;
    }

    /** "NOW is 0 at first, 999999 at most"; n seconds pass (0 to 100000); NONE for another n, beyond 999999. */
    private static void now() {
        Due.is("0 seconds", at(0).seconds(0), 0);
        Due.is("1 second", at(0).seconds(1), 1);
        Due.is("100000 seconds", at(0).seconds(100000), 100000);
        Due.is("100000 more", at(899999).seconds(100000), 999999);
        Due.range("seconds at 0", n -> at(0).seconds(n), 0, 100000);
        Due.range("seconds at 899999", n -> at(899999).seconds(n), 0, 100000);
        Due.range("seconds at 900000", n -> at(900000).seconds(n), 0, 99999);
        Due.range("seconds at 999998", n -> at(999998).seconds(n), 0, 1);
        Due.range("seconds at 999999", n -> at(999999).seconds(n), 0, 0);
        Due.is("the last second", at(999998).seconds(1), 999999);
        Due.is("stays the last", at(999999).seconds(0), 999999);
        TownExchange x = at(999990);
        Due.is("beyond", x.seconds(10), NONE);
        Due.is("changes nothing", x.count(0), 999990);
        Due.is("up to it", x.seconds(9), 999999);
    }

    /** "the DAY is NOW / 86400": a bill can be asked for as known up to the DAY NOW. */
    private static void days() {
        int[][] dayAt = {{0, 0}, {86399, 0}, {86400, 1}, {172799, 1}, {172800, 2}, {950399, 10}, {950400, 11},
            {999999, 11}};
        for (int[] d : dayAt) {
            Due.range("known at " + d[0] + " on day", t -> at(d[0]).bill(0, 0, 11, t), 0, d[1]);
            TownExchange x = at(d[0]);
            Due.call(x, 0, "411");
            x.answer(0);
            x.end(0);
            Due.is("answered at " + d[0] + " on day", x.book(0, 2), d[1]);
            Due.is("ended at " + d[0] + " on day", x.book(0, 3), d[1]);
        }
    }

    /** "the HOUR NOW / 3600 modulo 24". */
    private static void hours() {
        int[][] hourAt = {{0, 0}, {3599, 0}, {3600, 1}, {7199, 1}, {7200, 2}, {82799, 22}, {82800, 23}, {86399, 23},
            {86400, 0}, {89999, 0}, {90000, 1}, {999998, 13}};
        for (int[] h : hourAt) {
            TownExchange x = at(h[0]);
            Due.tariff(x, "unit 1 each 60 when hour = " + h[1] + ";");
            Due.call(x, 0, "411");
            x.answer(0);
            x.seconds(1);
            Due.is("hour at " + h[0], x.end(0), 1);
        }
    }

    /** A kind 0 or 1; 1 to 8 SWITCHES; SELECTORS in 1 or 2 SECTIONS, FINALS in 1. */
    private static void rackRanges() {
        Due.range("kind", n -> new TownExchange().rack(n, 1, 1), 0, 1);
        Due.range("selectors", n -> new TownExchange().rack(0, n, 1), 1, 8);
        Due.range("selectors in 2 sections", n -> new TownExchange().rack(0, n, 2), 1, 8);
        Due.range("finals", n -> new TownExchange().rack(1, n, 1), 1, 8);
        Due.range("sections of selectors", n -> new TownExchange().rack(0, 8, n), 1, 2);
        Due.range("sections of finals", n -> new TownExchange().rack(1, 8, n), 1, 1);
        for (int switches = 1; switches <= 8; switches++) {
            TownExchange x = new TownExchange();
            Due.is("first rack", x.rack(0, switches, 2), 0);
            Due.is("second rack", x.rack(1, switches, 1), 1);
            Due.is("racks", x.count(1), 2);
            Due.is("switches", x.count(11), 2 * switches);
        }
        TownExchange x = new TownExchange();
        x.rack(2, 1, 1);
        x.rack(0, 9, 1);
        x.rack(1, 1, 2);
        Due.is("refused ones take no number", x.rack(0, 1, 1), 0);
    }

    /** RACKS, 12 at most. */
    private static void twelveRacks() {
        for (int kind = 0; kind <= 1; kind++) {
            TownExchange x = new TownExchange();
            for (int i = 0; i < 12; i++) {
                Due.is("rack " + i, x.rack(kind, 8, 1), i);
            }
            Due.is("racks", x.count(1), 12);
            Due.is("switches", x.count(11), 96);
            Due.is("selectors more", x.rack(0, 1, 1), NONE);
            Due.is("finals more", x.rack(1, 1, 1), NONE);
            Due.is("still 12", x.count(1), 12);
            Due.is("still 96", x.count(11), 96);
            Due.yes("switch", n -> x.out(n, true), 0, 95);
            Due.yes("no switch is a junction", n -> x.faulty(n, true), 0, 95);
        }
    }

    /** SWITCHES are named 8 * RACK + number. */
    private static void switchNames() {
        for (int switches = 1; switches <= 8; switches++) {
            TownExchange x = new TownExchange();
            for (int rack = 0; rack < 12; rack++) {
                int first = 8 * rack;
                Due.is("not there yet: " + first, x.out(first, false), false);
                x.rack(rack % 2, switches, 1);
                Due.is("the first: " + first, x.out(first, false), true);
                Due.is("the last of " + switches, x.faulty(first + switches - 1, false), true);
                Due.is("beyond the last of " + switches, x.faulty(first + switches, false), false);
                Due.is("before the first", x.sure(first - 1), rack > 0 && switches == 8 ? 0 : NONE);
                Due.is("the last", x.sure(first + switches - 1), 0);
                Due.is("beyond", x.sure(first + switches), NONE);
            }
        }
    }

    /** SWITCH n is of SECTION n modulo SECTIONS: the END of level 1 tells the SECTION. */
    private static void sectionsOfSwitches() {
        for (int sections = 1; sections <= 2; sections++) {
            TownExchange x = new TownExchange();
            x.rack(1, 1, 1);
            x.rack(0, 8, sections);
            x.rack(1, 8, 1);
            for (int place = 0; place < 4; place++) {
                x.outlet(1, 0, 1, place, 16 + place);
                x.outlet(1, 1, 1, place, 20 + place);
            }
            for (int i = 0; i < 8; i++) {
                x.line(1, 0, i);
                Due.is("lifts", x.lift(i), 0);
                Due.is("takes " + (8 + i), x.path(i, 0), 8 + i);
                boolean more = sections == 2 || i < 4;
                Due.is("dials", x.dial(i, 1), more ? 1 : 3);
                int end = sections == 2 ? 16 + 4 * (i % 2) + i / 2 : 16 + i;
                Due.is("switch " + i + " of " + sections + " sections", x.path(i, 1), more ? end : NONE);
            }
        }
    }

    private static TownExchange racks() {
        TownExchange x = new TownExchange();
        x.rack(0, 8, 2);
        x.rack(1, 3, 1);
        x.rack(0, 2, 1);
        x.rack(1, 8, 1);
        return x;
    }

    /** OUTLETS: of SELECTORS, a SECTION, a LEVEL (0 to 9), a place (0 to 3). */
    private static void outletRanges() {
        Due.yes("rack, where the last are finals", n -> n == 1 || racks().outlet(n, 0, 0, 0, 100), 0, 2);
        Due.is("of finals", racks().outlet(1, 0, 0, 0, 100), false);
        Due.is("of the last finals", racks().outlet(3, 0, 0, 0, 100), false);
        Due.is("of a rack that is not there", racks().outlet(4, 0, 0, 0, 100), false);
        Due.is("of a rack that can't be there", racks().outlet(12, 0, 0, 0, 100), false);
        Due.yes("section of two", n -> racks().outlet(0, n, 0, 0, 100), 0, 1);
        Due.yes("section of one", n -> racks().outlet(2, n, 0, 0, 100), 0, 0);
        Due.yes("level", n -> racks().outlet(0, 1, n, 3, 100), 0, 9);
        Due.yes("place", n -> racks().outlet(0, 1, 9, n, 100), 0, 3);
    }

    /** Each leads to a SWITCH of another RACK, to a JUNCTION (named 100 + number), or nowhere. */
    private static void outletEnds() {
        Due.yes("junction", n -> racks().outlet(0, 0, 0, 0, n), 100, 115);
        Due.yes("final, behind its own rack", n -> racks().outlet(0, 0, 0, 0, n), 8, 10);
        Due.yes("selector", n -> racks().outlet(0, 0, 0, 0, n), 16, 17);
        Due.yes("final", n -> racks().outlet(0, 0, 0, 0, n), 24, 31);
        Due.yes("from rack 2 back to rack 0, behind nowhere", n -> n != NONE && racks().outlet(2, 0, 0, 0, n), 0, 10);
        Due.yes("from rack 2 on", n -> racks().outlet(2, 0, 0, 0, n), 24, 31);
        for (int own = 0; own < 8; own++) {
            Due.is("of the same rack: " + own, racks().outlet(0, 1, 0, 0, own), false);
        }
        Due.is("of the same rack: 16", racks().outlet(2, 0, 0, 0, 16), false);
        Due.is("of the same rack: 17", racks().outlet(2, 0, 0, 0, 17), false);
        Due.is("nowhere", racks().outlet(0, 0, 0, 0, NONE), true);
        Due.is("below nowhere", racks().outlet(0, 0, 0, 0, -2), false);
        Due.is("between switches and junctions", racks().outlet(0, 0, 0, 0, 96), false);
        TownExchange x = racks();
        Due.is("not there yet", x.outlet(0, 0, 0, 0, 32), false);
        x.rack(0, 1, 1);
        Due.is("there now", x.outlet(0, 0, 0, 0, 32), true);
    }

    /** ".. or nowhere (as at first)". */
    private static void outletsAtFirst() {
        TownExchange x = racks();
        x.line(0, 1, 0);
        x.line(2, 1, 1);
        for (int level = 0; level <= 9; level++) {
            Due.is("section 0, level " + level, x.would(0, level, 1), 4);
            Due.is("rack 2, level " + level, x.would(1, level, 1), 4);
            Due.is("no end at level " + level, x.lost(0, level, 1), 8);
            Due.is("no end at level " + level, x.more(0, level, 1, 0), 1);
        }
        x.out(0, true);
        Due.is("section 1", x.would(0, 0, 1), 4);
        x.outlet(0, 0, 0, 0, 8);
        x.outlet(0, 1, 1, 0, 8);
        Due.is("another section's outlet", x.would(0, 0, 1), 4);
        Due.is("its own", x.would(0, 1, 1), 1);
        Due.is("another level", x.would(0, 2, 1), 4);
    }

    /** An OUTLET leads to an END in place of what it led to; what is held stays. */
    private static void outletsAnew() {
        TownExchange x = Due.small();
        Due.call(x, 0, "4");
        Due.path("by the old outlet", x, 0, 0, 8);
        Due.is("nowhere", x.outlet(0, 0, 4, 0, NONE), true);
        Due.is("to a junction", x.outlet(0, 0, 4, 1, 115), true);
        Due.path("stays held", x, 0, 0, 8);
        Due.is("and goes on", Due.dialAll(x, 0, "11"), 5);
        Due.is("another call", Due.call(x, 2, "4"), 1);
        Due.path("goes by the new outlet", x, 2, 1, 115);
        x.outlet(0, 0, 4, 1, NONE);
        Due.is("one that leads nowhere any more is dead", x.would(3, 4, 1), 4);
        x.end(0);
        x.outlet(0, 0, 4, 0, 8);
        Due.is("led back", x.would(3, 4, 1), 1);
    }

    private static int zoneUnits(TownExchange x, int junction) {
        x.outlet(0, 0, 9, 0, 100 + junction);
        Due.call(x, 0, "9000");
        x.answer(0);
        x.seconds(1);
        return x.end(0);
    }

    /** JUNCTIONS 0 to 15, each of a ZONE 1 to 9 (1 at first). */
    private static void zones() {
        Due.yes("junction", n -> new TownExchange().zone(n, 9), 0, 15);
        Due.yes("zone", n -> new TownExchange().zone(15, n), 1, 9);
        Due.is("a junction's end", new TownExchange().zone(100, 1), false);
        TownExchange x = Due.small();
        Due.tariff(x, "unit 1 each 60 when zone=1;unit 9 each 60 when zone=9;unit 5 each 60 when zone=5;");
        for (int junction = 0; junction < 16; junction++) {
            Due.is("zone of " + junction + " at first", zoneUnits(x, junction), 1);
        }
        x.zone(0, 9);
        x.zone(15, 5);
        x.zone(15, 10);
        x.zone(15, 0);
        Due.is("zone of 0", zoneUnits(x, 0), 9);
        Due.is("zone of 15", zoneUnits(x, 15), 5);
        Due.is("zone of 1", zoneUnits(x, 1), 1);
        Due.is("zone of 14", zoneUnits(x, 14), 1);
        x.zone(0, 1);
        Due.is("zone of 0 again", zoneUnits(x, 0), 1);
    }

    /** A home RACK (SELECTORS), a final RACK (FINALS), a NUMBER there (0 to 99). */
    private static void lineRanges() {
        Due.range("number", n -> racks().line(0, 1, n), 0, 99);
        Due.range("home, between finals", n -> racks().line(n, 1, 0), 2, 2);
        Due.range("home", n -> racks().line(n, 1, 0), 0, 0);
        Due.range("last, between selectors", n -> racks().line(0, n, 0), 3, 3);
        Due.range("last", n -> racks().line(0, n, 0), 1, 1);
        Due.is("a rack that is not there", racks().line(4, 1, 0), NONE);
        Due.is("a rack that is not there", racks().line(0, 4, 0), NONE);
        Due.is("racks that can't be there", racks().line(12, 1, 0), NONE);
        Due.is("racks that can't be there", racks().line(0, 12, 0), NONE);
        TownExchange x = racks();
        x.line(0, 1, 100);
        x.line(0, 0, 1);
        Due.is("refused ones take no number", x.line(0, 1, 5), 0);
        Due.is("lines", x.count(2), 1);
        Due.is("quiet", x.look(0, 0), 0);
    }

    /** Each NUMBER once in a RACK. */
    private static void numbersOnce() {
        int[] numbers = {0, 1, 9, 10, 98, 99};
        TownExchange x = racks();
        int lines = 0;
        for (int number : numbers) {
            Due.is("number " + number, x.line(0, 1, number), lines++);
            Due.is("again", x.line(0, 1, number), NONE);
            Due.is("from another home", x.line(2, 1, number), NONE);
            Due.is("in another rack", x.line(0, 3, number), lines++);
            Due.is("again there", x.line(2, 3, number), NONE);
        }
        Due.is("lines", x.count(2), lines);
    }

    /** LINES, 40 at most. */
    private static void fortyLines() {
        TownExchange x = racks();
        for (int i = 0; i < 40; i++) {
            Due.is("line " + i, x.line(i % 2 * 2, 1 + i % 2 * 2, 99 - i), i);
        }
        Due.is("one more", x.line(0, 1, 0), NONE);
        Due.is("one more in the other rack", x.line(2, 3, 0), NONE);
        Due.is("40", x.count(2), 40);
        Due.range("lines", n -> n < 0 || n >= 40 ? x.lift(n) : x.would(n, 0, 1), 0, 39);
        Due.lookThrows("the 41st", x, 40, 0);
        Due.is("the last", x.look(39, 0), 0);
    }

    /** A SWITCH is OUT, FAULTY (yes) or not; none such: false. */
    private static void outAndFaulty() {
        Due.yes("out in rack 0", n -> racks().out(n, true), 0, 10);
        Due.yes("out in rack 2", n -> racks().out(n, true), 16, 17);
        Due.yes("out in rack 3", n -> racks().out(n, true), 24, 31);
        Due.yes("faulty in rack 0", n -> racks().faulty(n, true), 0, 10);
        Due.yes("faulty in rack 2", n -> racks().faulty(n, false), 16, 17);
        Due.yes("faulty in rack 3", n -> racks().faulty(n, false), 24, 31);
        for (int junction = 96; junction <= 116; junction++) {
            Due.is("out " + junction, racks().out(junction, true), false);
            Due.is("faulty " + junction, racks().faulty(junction, true), false);
        }
        TownExchange x = Due.small();
        Due.is("told twice", x.out(0, true), true);
        Due.is("told twice", x.out(0, true), true);
        x.lift(0);
        Due.path("out", x, 0, 1);
        Due.is("told once that it is not", x.out(0, false), true);
        Due.is("and once more", x.out(0, false), true);
        x.lift(1);
        Due.path("not out", x, 1, 0);
        Due.is("faulty twice", x.faulty(2, true), true);
        Due.is("faulty twice", x.faulty(2, true), true);
        Due.is("silent", x.lift(2), 2);
        x.end(2);
        Due.is("not faulty", x.faulty(2, false), true);
        Due.is("not faulty", x.faulty(2, false), true);
        Due.is("sound", x.lift(2), 0);
    }

    /** OUT or not, FAULTY or not (not, at first): each switch of the largest town can be held and goes on. */
    private static void notOutNotFaultyAtFirst() {
        TownExchange x = new TownExchange();
        for (int rack = 0; rack < 6; rack++) {
            x.rack(0, 4, 1);
            x.rack(1, 4, 1);
            for (int place = 0; place < 4; place++) {
                x.outlet(2 * rack, 0, 0, place, 8 * (2 * rack + 1) + place);
            }
        }
        for (int line = 0; line < 24; line++) {
            x.line(line / 4 * 2, 1, line);
            Due.is("tone " + line, x.lift(line), 0);
            Due.is("goes on " + line, x.dial(line, 0), 1);
        }
        Due.is("all are held", x.count(4), x.count(11));
    }

    /** What is refused has changed nothing. */
    private static void refused() {
        Refused town = new Refused(Refused::town);
        town.none("seconds(-1)", x -> x.seconds(-1));
        town.none("seconds(100001)", x -> x.seconds(100001));
        town.none("rack of kind 2", x -> x.rack(2, 1, 1));
        town.none("rack of no switch", x -> x.rack(0, 0, 1));
        town.none("rack of 9", x -> x.rack(1, 9, 1));
        town.none("rack of no section", x -> x.rack(0, 1, 0));
        town.none("finals in 2 sections", x -> x.rack(1, 8, 2));
        town.none("selectors in 3", x -> x.rack(0, 8, 3));
        town.no("outlet of finals", x -> x.outlet(1, 0, 4, 0, NONE));
        town.no("outlet of rack 3", x -> x.outlet(3, 0, 4, 0, 100));
        town.no("outlet of section 2", x -> x.outlet(0, 2, 4, 0, 100));
        town.no("outlet of section 1 of one", x -> x.outlet(2, 1, 4, 0, 100));
        town.no("outlet of level 10", x -> x.outlet(0, 0, 10, 0, 100));
        town.no("outlet of level -1", x -> x.outlet(0, 1, -1, 0, 100));
        town.no("outlet of place 4", x -> x.outlet(0, 0, 4, 4, 100));
        town.no("outlet of place -1", x -> x.outlet(0, 0, 4, -1, NONE));
        town.no("outlet to junction 16", x -> x.outlet(0, 0, 4, 0, 116));
        town.no("outlet to its own rack", x -> x.outlet(0, 0, 4, 0, 7));
        town.no("outlet to no switch", x -> x.outlet(0, 0, 4, 0, 12));
        town.no("outlet to -2", x -> x.outlet(0, 0, 4, 0, -2));
        town.no("zone 0", x -> x.zone(0, 0));
        town.no("zone 10", x -> x.zone(0, 10));
        town.no("zone of 16", x -> x.zone(16, 3));
        town.no("zone of -1", x -> x.zone(-1, 3));
        town.none("line of a told number", x -> x.line(2, 1, 10));
        town.none("line of number 100", x -> x.line(0, 1, 100));
        town.none("line of number -1", x -> x.line(0, 1, -1));
        town.none("line at home in finals", x -> x.line(1, 1, 50));
        town.none("line behind selectors", x -> x.line(0, 2, 50));
        town.none("line of rack 3", x -> x.line(3, 1, 50));
        town.no("out 12", x -> x.out(12, true));
        town.no("out 100", x -> x.out(100, true));
        town.no("out -1", x -> x.out(-1, true));
        town.no("faulty 12", x -> x.faulty(12, true));
        town.no("faulty 100", x -> x.faulty(100, true));
        town.no("faulty 18", x -> x.faulty(18, true));
    }

    private static TownExchange fullTown() {
        TownExchange x = Refused.town();
        for (int i = 3; i < 12; i++) {
            x.rack(i % 2, 2, 1);
        }
        for (int i = 9; i < 40; i++) {
            x.line(0, 1, 40 + i);
        }
        return x;
    }

    private static TownExchange lateTown() {
        TownExchange x = Refused.town();
        Due.pass(x, 929999 - x.count(0));
        return x;
    }

    private static void refusedWhenFull() {
        Refused full = new Refused(EdgeTermsTest::fullTown);
        full.none("a 13th rack", x -> x.rack(0, 8, 2));
        full.none("a 41st line", x -> x.line(0, 1, 90));
        Refused late = new Refused(EdgeTermsTest::lateTown);
        late.none("seconds beyond the last", x -> x.seconds(70001));
    }
}
