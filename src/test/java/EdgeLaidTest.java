/** The limits of LAID ANEW: what can be laid, what can not, and which one is moved: promise 19. */
public final class EdgeLaidTest {
    private static final int NONE = TownExchange.NONE;

    public static void main(String[] args) {
        ranges();
        notQuiet();
        anySwitchOfTheHomeRack();
        anyOutlet();
        notHeldNotOutNotFaulty();
        noSwitchTwice();
        untilRung();
        whoWouldBeRung();
        onlyCallsThatAreThrough();
        onlyFiveDigits();
        digitsBehindRungAreNotTaken();
        whatItHoldsIsFree();
        toTheSameLine();
        overAnyJunction();
        byFewerDigits();
        nothingInCommon();
        itsOwnSwitchIsFaulty();
        leastLine();
        twoWouldHaveToMove();
        noneMovedGoesFirst();
        nothingIsChanged();
        refused();
        Due.finish("EdgeLaidTest");
    }

    private static void due(String what, TownExchange x, int line, String digits, int fewest, int moved) {
        int number = Integer.parseInt(digits);
        Due.is(what + ": fewest", x.laid(line, number, digits.length(), 0), fewest);
        Due.is(what + ": moved", x.laid(line, number, digits.length(), 1), moved);
    }

    /** laid: NONE: no such LINE, other digits, another what. */
    private static void ranges() {
        Due.range("line", n -> Due.small().laid(n, 9000, 4, 0), 0, 3);
        Due.is("99999", Due.small().laid(0, 99999, 5, 0), 0);
        Due.is("100000", Due.small().laid(0, 100000, 5, 0), NONE);
        Due.is("109000, its last 4", Due.small().laid(0, 109000, 4, 0), NONE);
        Due.is("-1", Due.small().laid(0, -1, 5, 0), NONE);
        Due.range("many", n -> Due.small().laid(0, 41341, n, 0), 5, 5);
        Due.range("many over a junction", n -> Due.small().laid(0, 99999, n, 0), 4, 5);
        Due.is("many 0", Due.small().laid(0, 413, 0, 0), NONE);
        Due.is("the last 3 of 99413", Due.small().laid(0, 99413, 3, 0), 0);
        TownExchange x = Due.pair();
        Due.call(x, 0, "101");
        Due.range("what", n -> x.laid(2, 203, 3, n), 0, 1);
        Due.is("what 2, none moved", Due.small().laid(0, 413, 3, 2), NONE);
    }

    private static void notQuiet() {
        TownExchange x = Due.small();
        x.lift(0);
        due("calling", x, 0, "413", NONE, NONE);
        Due.dialAll(x, 0, "411");
        due("rung", x, 0, "413", NONE, NONE);
        due("called", x, 1, "413", NONE, NONE);
        due("another", x, 2, "413", 0, NONE);
        x.end(0);
        due("quiet again", x, 0, "413", 0, NONE);
    }

    /** LAID is a call by any SWITCH of its LINE's home RACK. */
    private static void anySwitchOfTheHomeRack() {
        for (int last = 0; last < 8; last++) {
            TownExchange x = new TownExchange();
            x.rack(0, 8, 1);
            x.rack(1, 1, 1);
            x.rack(0, 8, 1);
            x.outlet(0, 0, 1, 0, 8);
            x.outlet(2, 0, 1, 0, 8);
            for (int i = 0; i < 4; i++) {
                x.line(0, 1, i);
            }
            for (int other = 0; other < 8; other++) {
                if (other != last) {
                    Due.is("out or faulty", other % 2 == 0 ? x.out(other, true) : x.faulty(other, true), true);
                }
            }
            due("by " + last + " alone", x, 0, "101", 0, NONE);
            x.faulty(last, true);
            due("by none", x, 0, "101", NONE, NONE);
        }
        TownExchange x = new TownExchange();
        x.rack(0, 8, 2);
        x.rack(1, 1, 1);
        x.outlet(0, 1, 1, 3, 8);
        x.line(0, 1, 0);
        x.line(0, 1, 1);
        Due.is("dead by the first switch", x.would(0, 101, 3), 4);
        due("by a switch of section 1", x, 0, "101", 0, NONE);
        due("section 1, another level", x, 0, "001", NONE, NONE);
    }

    /** By any OUTLET of the LEVEL in the SECTION it has come to. */
    private static void anyOutlet() {
        for (int place = 0; place < 4; place++) {
            TownExchange x = new TownExchange();
            x.rack(0, 1, 1);
            x.rack(1, 1, 1);
            x.rack(1, 8, 1);
            x.line(0, 1, 5);
            x.line(0, 1, 6);
            for (int other = 0; other < 4; other++) {
                x.outlet(0, 0, 1, other, 16 + other);
            }
            due("to the wrong finals", x, 0, "106", NONE, NONE);
            x.outlet(0, 0, 1, place, 8);
            due("by place " + place, x, 0, "106", 0, NONE);
            Due.is("would meet the first", x.would(0, 106, 3), place == 0 ? 5 : 4);
            x.outlet(0, 0, 1, place, 100 + place);
            due("over a junction at place " + place, x, 0, "1067", 0, NONE);
            due("with a digit too few", x, 0, "106", NONE, NONE);
        }
    }

    /** Home selector 0, selector 8, final 16; and selector 0, junction 100. */
    private static TownExchange chain() {
        TownExchange x = new TownExchange();
        x.rack(0, 1, 1);
        x.rack(0, 1, 1);
        x.rack(1, 1, 1);
        x.rack(0, 1, 1);
        x.outlet(0, 0, 1, 0, 8);
        x.outlet(1, 0, 2, 0, 16);
        x.outlet(0, 0, 9, 0, 100);
        x.outlet(3, 0, 2, 0, 16);
        x.outlet(3, 0, 9, 0, 100);
        x.line(0, 2, 0);
        x.line(3, 2, 1);
        x.line(1, 2, 2);
        x.line(3, 2, 3);
        return x;
    }

    /** All of them free and neither OUT nor FAULTY. */
    private static void notHeldNotOutNotFaulty() {
        int[] route = {0, 8, 16};
        for (int end : route) {
            TownExchange x = chain();
            due("all are free", x, 0, "1203", 0, NONE);
            x.out(end, true);
            due("out: " + end, x, 0, "1203", NONE, NONE);
            x.out(end, false);
            x.faulty(end, true);
            due("faulty: " + end, x, 0, "1203", NONE, NONE);
            x.faulty(end, false);
            due("neither: " + end, x, 0, "1203", 0, NONE);
        }
        TownExchange x = chain();
        x.lift(2);
        due("8 is held", x, 0, "1203", NONE, NONE);
        x.end(2);
        Due.call(x, 1, "2");
        due("16 is held", x, 0, "1203", NONE, NONE);
        due("the junction is not", x, 0, "9000", 0, NONE);
        x.end(1);
        Due.call(x, 1, "900");
        due("the junction is held", x, 0, "9000", NONE, NONE);
        due("16 is not", x, 0, "1203", 0, NONE);
    }

    /** No SWITCH twice. */
    private static void noSwitchTwice() {
        TownExchange x = new TownExchange();
        x.rack(0, 2, 1);
        x.rack(0, 1, 1);
        x.rack(1, 1, 1);
        x.out(1, true);
        x.outlet(0, 0, 1, 0, 8);
        x.outlet(1, 0, 1, 0, 0);
        x.outlet(1, 0, 1, 1, 1);
        x.outlet(0, 0, 2, 0, 16);
        x.line(0, 2, 0);
        x.line(0, 2, 1);
        due("by 0, 8 and 0 again", x, 0, "11201", NONE, NONE);
        x.out(1, false);
        due("by 0, 8 and 1", x, 0, "11201", 0, NONE);
    }

    /** Until it would be RUNG (digits behind that are not asked). */
    private static void untilRung() {
        due("at once", Due.small(), 0, "413", 0, NONE);
        due("one behind", Due.small(), 0, "4139", 0, NONE);
        due("two behind", Due.small(), 0, "41399", 0, NONE);
        due("one too few", Due.small(), 0, "41", NONE, NONE);
        due("two too few", Due.small(), 0, "4", NONE, NONE);
        due("junction", Due.small(), 0, "9000", 0, NONE);
        due("one behind", Due.small(), 0, "90000", 0, NONE);
        due("one too few", Due.small(), 0, "900", NONE, NONE);
        due("two too few", Due.small(), 0, "90", NONE, NONE);
        due("no level", Due.small(), 0, "54130", NONE, NONE);
        TownExchange x = chain();
        due("three hops, two figures", x, 0, "12033", 0, NONE);
        due("one too few", x, 0, "120", NONE, NONE);
    }

    /** It would be RUNG: the LINE is there and QUIET. */
    private static void whoWouldBeRung() {
        TownExchange x = Due.small();
        due("itself", x, 0, "410", NONE, NONE);
        due("no such line", x, 0, "414", NONE, NONE);
        x.lift(1);
        due("one that is calling", x, 0, "411", NONE, NONE);
        Due.dialAll(x, 1, "412");
        due("one that is called", x, 0, "412", NONE, NONE);
        due("one that calls", x, 0, "411", NONE, NONE);
        x.answer(1);
        due("one that is spoken to", x, 0, "412", NONE, NONE);
        due("one that is quiet", x, 0, "413", 0, NONE);
        TownExchange y = Due.small();
        for (int line = 0; line < 4; line++) {
            for (int other = 0; other < 4; other++) {
                due(line + " by " + other, y, other, "41" + line, other == line ? NONE : 0, NONE);
            }
        }
        TownExchange z = chain();
        due("by another home rack", z, 1, "203", 0, NONE);
        due("itself, by another home rack", z, 1, "201", NONE, NONE);
        due("by the home rack in the middle", z, 2, "203", 0, NONE);
        due("not by that level", z, 2, "1203", NONE, NONE);
    }

    /** One call that is RUNG or ANSWERED: no other can be moved. */
    private static void onlyCallsThatAreThrough() {
        String[] notThrough = {"1", "10", "100", "177"};
        for (String digits : notThrough) {
            TownExchange x = Due.pair();
            Due.call(x, 0, digits);
            Due.is("8 is held", x.held(8), 0);
            due("held by " + digits, x, 2, "203", NONE, NONE);
        }
        TownExchange x = Due.pair();
        x.faulty(8, true);
        Due.is("silent", Due.call(x, 0, "101"), 2);
        x.faulty(8, false);
        due("silent", x, 2, "203", NONE, NONE);
        x.end(0);
        Due.is("rung", Due.call(x, 0, "101"), 5);
        due("rung", x, 2, "203", 1, 0);
        x.answer(0);
        due("answered", x, 2, "203", 1, 0);
        x.end(0);
        due("ended", x, 2, "203", 0, NONE);
        deadOverAJunction();
        TownExchange lifted = new TownExchange();
        lifted.rack(0, 1, 1);
        lifted.rack(1, 1, 1);
        lifted.rack(0, 1, 1);
        lifted.outlet(0, 0, 1, 0, 8);
        lifted.line(0, 1, 0);
        lifted.line(0, 1, 1);
        lifted.line(2, 1, 2);
        lifted.lift(1);
        due("lifted", lifted, 0, "102", NONE, NONE);
        TownExchange over = Due.small();
        over.outlet(0, 0, 9, 1, 101);
        over.outlet(0, 0, 8, 0, 100);
        Due.call(over, 0, "900");
        due("two digits over a junction", over, 1, "8000", NONE, NONE);
        over.dial(0, 0);
        due("three", over, 1, "8000", 1, 0);
    }

    /** A call that is DEAD or BUSY is not over a JUNCTION, though its digits would lead there, too. */
    private static void deadOverAJunction() {
        String[] notThrough = {"1177", "1100"};
        for (String digits : notThrough) {
            TownExchange x = new TownExchange();
            x.rack(0, 4, 1);
            x.rack(0, 1, 1);
            x.rack(1, 1, 1);
            x.outlet(0, 0, 1, 0, 8);
            x.outlet(0, 0, 1, 1, 100);
            x.outlet(1, 0, 1, 0, 16);
            x.outlet(0, 0, 2, 0, 16);
            x.line(0, 2, 0);
            x.line(0, 2, 1);
            x.line(0, 2, 2);
            Due.is("dead or busy", Due.call(x, 0, digits), digits.equals("1177") ? 4 : 3);
            Due.is("four digits", x.look(0, 4), 4);
            due("dead or busy", x, 1, "202", NONE, NONE);
        }
    }

    /** ".. and took 5 digits at most": hops selectors ahead of the final. */
    private static TownExchange hops(int hops) {
        TownExchange x = new TownExchange();
        for (int i = 0; i < 5; i++) {
            x.rack(0, 2, 1);
        }
        x.rack(1, 2, 1);
        for (int i = 0; i < 4; i++) {
            x.outlet(i, 0, 1, 0, 8 * i + 8);
        }
        x.outlet(hops - 1, 0, 2, 0, 40);
        x.outlet(hops - 1, 0, 2, 1, 41);
        x.outlet(0, 0, 3, 0, 40);
        for (int i = 0; i < 4; i++) {
            x.line(0, 5, i);
        }
        return x;
    }

    private static void onlyFiveDigits() {
        for (int hops = 1; hops <= 5; hops++) {
            TownExchange x = hops(hops);
            Due.is("rung", Due.call(x, 0, "1111".substring(0, hops - 1) + "201"), 5);
            Due.is("digits", x.look(0, 4), hops + 2);
            boolean five = hops + 2 <= 5;
            due("one that took " + (hops + 2), x, 2, "303", five ? 1 : NONE, five ? 0 : NONE);
        }
    }

    private static void digitsBehindRungAreNotTaken() {
        TownExchange x = hops(3);
        Due.is("rung", Due.call(x, 0, "11201"), 5);
        Due.is("more", Due.dialAll(x, 0, "999"), 5);
        due("five were taken", x, 2, "303", 1, 0);
        x.answer(0);
        Due.dialAll(x, 0, "99");
        due("five were taken", x, 2, "303", 1, 0);
    }

    /** What that holds being free: its first switch, its selector, its final, its junction. */
    private static void whatItHoldsIsFree() {
        TownExchange home = new TownExchange();
        home.rack(0, 2, 2);
        home.rack(1, 2, 1);
        home.outlet(0, 0, 1, 0, 8);
        home.outlet(0, 1, 1, 0, 8);
        home.outlet(0, 0, 2, 0, 9);
        for (int i = 0; i < 4; i++) {
            home.line(0, 1, i);
        }
        Due.call(home, 0, "101");
        due("the first switch", home, 2, "203", 1, 0);
        TownExchange middle = new TownExchange();
        middle.rack(0, 2, 1);
        middle.rack(0, 2, 2);
        middle.rack(1, 2, 1);
        middle.outlet(0, 0, 1, 0, 8);
        middle.outlet(0, 0, 1, 1, 9);
        middle.outlet(1, 0, 1, 0, 16);
        middle.outlet(1, 1, 1, 0, 16);
        middle.outlet(1, 0, 2, 0, 17);
        for (int i = 0; i < 4; i++) {
            middle.line(0, 2, i);
        }
        Due.is("rung", Due.call(middle, 0, "1101"), 5);
        Due.is("over 8", middle.path(0, 1), 8);
        due("the selector in the middle", middle, 2, "1203", 1, 0);
        TownExchange last = Due.pair();
        Due.call(last, 0, "101");
        due("the final", last, 2, "203", 1, 0);
    }

    /** To the same LINE as it is: not to another with the same number, nor over a junction. */
    private static void toTheSameLine() {
        TownExchange x = new TownExchange();
        x.rack(0, 4, 1);
        x.rack(1, 2, 1);
        x.rack(1, 1, 1);
        x.outlet(0, 0, 1, 0, 8);
        x.outlet(0, 0, 1, 1, 16);
        x.outlet(0, 0, 1, 2, 100);
        x.outlet(0, 0, 2, 0, 8);
        x.line(0, 1, 0);
        x.line(0, 1, 5);
        x.line(0, 2, 5);
        x.line(0, 1, 6);
        x.line(0, 1, 7);
        Due.is("rung", Due.call(x, 0, "1057"), 5);
        Due.is("line 1", x.look(0, 3), 1);
        due("another line with that number", x, 3, "207", NONE, NONE);
        x.outlet(0, 0, 1, 3, 9);
        due("the same line", x, 3, "207", 1, 0);
    }

    /** Over a JUNCTION if it is over one (whichever); not to a LINE. */
    private static void overAnyJunction() {
        for (int place = 0; place < 4; place++) {
            TownExchange x = new TownExchange();
            x.rack(0, 4, 1);
            x.rack(1, 1, 1);
            x.outlet(0, 0, 9, place, 115);
            x.outlet(0, 0, 8, 0, 115);
            x.line(0, 1, 0);
            x.line(0, 1, 1);
            x.line(0, 1, 2);
            Due.is("rung", Due.call(x, 0, "9022"), 5);
            due("no other", x, 1, "8000", NONE, NONE);
            x.outlet(0, 0, 9, (place + 1) % 4, 8);
            due("a line", x, 1, "8000", NONE, NONE);
            x.outlet(0, 0, 9, (place + 2) % 4, 100 + place);
            due("another junction", x, 1, "8000", 1, 0);
            x.lift(2);
            x.dial(2, 9);
            boolean heldNow = x.held(100 + place) == 2;
            due("held by another", x, 1, "8000", heldNow ? NONE : 1, heldNow ? NONE : 0);
        }
    }

    /** "until it would be RUNG (digits behind that are not asked)": the one that is moved, too. */
    private static void byFewerDigits() {
        TownExchange x = new TownExchange();
        x.rack(0, 4, 1);
        x.rack(0, 1, 1);
        x.rack(1, 2, 1);
        x.outlet(0, 0, 1, 0, 8);
        x.outlet(1, 0, 5, 0, 16);
        x.outlet(0, 0, 2, 0, 16);
        x.line(0, 2, 0);
        x.line(0, 2, 55);
        x.line(0, 2, 7);
        x.line(0, 2, 8);
        Due.is("rung", Due.call(x, 0, "1555"), 5);
        Due.is("four digits", x.look(0, 4), 4);
        due("no other way", x, 2, "208", NONE, NONE);
        x.outlet(0, 0, 1, 1, 17);
        due("by three of its digits", x, 2, "208", 1, 0);
    }

    /** Both of them holding nothing in common. */
    private static void nothingInCommon() {
        TownExchange x = Due.pair();
        Due.call(x, 0, "101");
        due("each a final", x, 2, "203", 1, 0);
        x.out(9, true);
        due("one final", x, 2, "203", NONE, NONE);
        x.out(9, false);
        due("two first switches", x, 2, "203", 1, 0);
        x.out(2, true);
        x.out(3, true);
        due("two first switches are left", x, 2, "203", 1, 0);
        x.out(1, true);
        due("one is left", x, 2, "203", NONE, NONE);
        TownExchange over = Due.small();
        Due.call(over, 0, "9000");
        due("one junction", over, 1, "9111", NONE, NONE);
        over.outlet(0, 0, 9, 1, 101);
        due("two", over, 1, "9111", 0, NONE);
    }

    /** What it holds may have been told OUT or FAULTY since: then it can't be laid over that again. */
    private static void itsOwnSwitchIsFaulty() {
        TownExchange x = Due.pair();
        Due.call(x, 0, "101");
        x.out(2, true);
        x.out(3, true);
        due("by 0 again or by 1", x, 2, "203", 1, 0);
        x.faulty(0, true);
        due("by 1 alone, as the new one", x, 2, "203", NONE, NONE);
        x.faulty(0, false);
        x.out(0, true);
        due("by 1 alone, as the new one", x, 2, "203", NONE, NONE);
        x.out(0, false);
        x.faulty(9, true);
        due("8 is free and sound, but not for both", x, 2, "203", NONE, NONE);
        x.faulty(9, false);
        x.faulty(8, true);
        due("8 is not for the new one", x, 2, "203", NONE, NONE);
        due("9 is", x, 2, "103", 0, NONE);
    }

    /** Its LINE is THE MOVED one, the least such LINE. */
    private static void leastLine() {
        for (int least = 0; least < 3; least++) {
            TownExchange x = new TownExchange();
            x.rack(0, 6, 1);
            x.rack(1, 4, 1);
            for (int i = 0; i < 4; i++) {
                x.outlet(0, 0, 1, i, 8 + i);
            }
            for (int i = 0; i < 3; i++) {
                x.outlet(0, 0, 2, i, 8 + i);
            }
            for (int i = 0; i < 8; i++) {
                x.line(0, 1, i);
            }
            for (int i = 2; i >= 0; i--) {
                Due.is("rung, or lifted", Due.call(x, i, i < least ? "1" : "10" + (3 + i)), i < least ? 1 : 5);
            }
            due("the least that is through", x, 6, "207", 1, least);
        }
        TownExchange x = new TownExchange();
        x.rack(0, 4, 1);
        x.rack(1, 3, 1);
        x.outlet(0, 0, 3, 0, 8);
        x.outlet(0, 0, 1, 0, 9);
        x.outlet(0, 0, 1, 1, 10);
        x.outlet(0, 0, 2, 0, 8);
        x.outlet(0, 0, 2, 1, 9);
        for (int i = 0; i < 6; i++) {
            x.line(0, 1, i);
        }
        Due.call(x, 0, "302");
        Due.call(x, 1, "103");
        Due.is("each a final", x.path(0, 1) * 100 + x.path(1, 1), 809);
        due("line 0 can't, line 1 can", x, 4, "205", 1, 1);
        TownExchange many = new TownExchange();
        many.rack(0, 2, 1);
        many.rack(1, 2, 1);
        many.rack(0, 2, 1);
        many.outlet(2, 0, 1, 0, 8);
        many.outlet(2, 0, 1, 1, 9);
        many.outlet(0, 0, 2, 0, 8);
        for (int i = 0; i < 40; i++) {
            many.line(i == 39 ? 2 : 0, 1, i);
        }
        Due.is("rung", Due.call(many, 39, "101"), 5);
        due("the last line", many, 2, "203", 1, 39);
    }

    /** None else: two calls would have to be moved. */
    private static void twoWouldHaveToMove() {
        TownExchange x = new TownExchange();
        x.rack(0, 6, 1);
        x.rack(1, 3, 1);
        x.rack(0, 1, 1);
        x.outlet(0, 0, 1, 0, 8);
        x.outlet(0, 0, 1, 1, 9);
        x.outlet(0, 0, 3, 0, 9);
        x.outlet(0, 0, 3, 1, 10);
        x.outlet(0, 0, 2, 0, 8);
        for (int i = 0; i < 8; i++) {
            x.line(0, 1, i);
        }
        Due.call(x, 0, "101");
        Due.call(x, 2, "303");
        Due.is("8 and 9", x.path(0, 1) * 100 + x.path(2, 1), 809);
        due("8 needs 9, 9 needs 10", x, 4, "205", NONE, NONE);
        x.end(2);
        due("9 is free", x, 4, "205", 1, 0);
    }

    /** 0 if the new one can be LAID so as all else is: none is moved then. */
    private static void noneMovedGoesFirst() {
        TownExchange x = Due.pair();
        Due.call(x, 0, "101");
        due("over 9", x, 2, "103", 0, NONE);
        due("over 8", x, 2, "203", 1, 0);
        x.outlet(0, 0, 2, 3, 9);
        due("over 9", x, 2, "203", 0, NONE);
    }

    /** Nothing is changed, and what is refused has changed nothing. */
    private static void nothingIsChanged() {
        Refused town = new Refused(Refused::town);
        town.is("laid, none moved", x -> x.laid(5, 417, 3, 0), 0);
        town.none("laid, none moved", x -> x.laid(5, 417, 3, 1));
        town.none("laid, none can", x -> x.laid(5, 51, 2, 0));
        Refused moved = new Refused(() -> {
            TownExchange x = Refused.town();
            x.out(9, true);
            x.outlet(0, 0, 4, 3, 10);
            x.outlet(0, 0, 6, 0, 8);
            return x;
        });
        moved.is("laid, one moved", x -> x.laid(7, 615, 3, 0), 1);
        moved.is("laid, line 0", x -> x.laid(7, 615, 3, 1), 0);
    }

    private static void refused() {
        Refused town = new Refused(Refused::town);
        town.none("laid(9, ..)", x -> x.laid(9, 417, 3, 0));
        town.none("laid, answered", x -> x.laid(0, 417, 3, 0));
        town.none("laid, spoken to", x -> x.laid(1, 417, 3, 0));
        town.none("laid of 6 digits", x -> x.laid(5, 417, 6, 0));
        town.none("laid of 0 digits", x -> x.laid(5, 417, 0, 0));
        town.none("laid of 100000", x -> x.laid(5, 100000, 3, 0));
        town.none("laid, what 2", x -> x.laid(5, 417, 3, 2));
        town.none("laid, what -1", x -> x.laid(5, 417, 3, -1));
    }
}
