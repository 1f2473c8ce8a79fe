/** The limits of "5. LOST": none or all of the SWITCHES, ENDS each once, SHARED, and r of 1000: promises 20 and 21. */
public final class EdgeLostTest {
    private static final int NONE = TownExchange.NONE;

    public static void main(String[] args) {
        ranges();
        noEnds();
        oneOfEachKind();
        eachOnce();
        outOrHeld();
        allSwitchesCount();
        sections();
        allCounts();
        allCountsOfOneSection();
        exactlyR();
        endsOfOthers();
        refused();
        Due.finish("EdgeLostTest");
    }

    /** A rack 0 of selectors, two racks of 8 finals, rack 3 of 2 selectors. */
    private static TownExchange racks(int switches, int sections) {
        TownExchange x = new TownExchange();
        x.rack(0, switches, sections);
        x.rack(1, 8, 1);
        x.rack(1, 8, 1);
        x.rack(0, 2, 1);
        return x;
    }

    /** lost: k 1 to its SWITCHES; more: r 0 to 1000; NONE: no such SELECTORS, LEVEL. */
    private static void ranges() {
        for (int switches = 1; switches <= 8; switches++) {
            int s = switches;
            Due.range("k of " + s, k -> racks(s, 2).lost(0, 0, k), 1, s);
            Due.range("k of " + s + ", more", k -> racks(s, 1).more(0, 0, k, 0), 1, s);
        }
        Due.range("level", n -> racks(4, 2).lost(0, n, 1), 0, 9);
        Due.range("level, more", n -> racks(4, 2).more(0, n, 1, 0), 0, 9);
        Due.range("rack 0", n -> racks(4, 2).lost(n, 0, 1), 0, 0);
        Due.range("rack 3", n -> racks(4, 2).lost(n, 0, 1), 3, 3);
        Due.range("rack 0, more", n -> racks(4, 2).more(n, 0, 1, 0), 0, 0);
        Due.range("rack 3, more", n -> racks(4, 2).more(n, 0, 1, 0), 3, 3);
        Due.is("rack 12", racks(4, 2).lost(12, 0, 1), NONE);
        Due.range("r", r -> racks(4, 2).more(0, 0, 1, r), 0, 1000);
        Due.range("r, where none is lost", r -> {
            TownExchange x = racks(1, 1);
            x.outlet(0, 0, 0, 0, 8);
            return x.more(0, 0, 1, r);
        }, 0, 1000);
    }

    private static int waysOf(int all, int chosen) {
        return chosen == 0 ? 1 : waysOf(all - 1, chosen - 1) * all / chosen;
    }

    /** No ENDS: of all ways each leaves one or more without; k SHARED ones more are enough. */
    private static void noEnds() {
        for (int sections = 1; sections <= 2; sections++) {
            for (int k = 1; k <= 8; k++) {
                TownExchange x = racks(8, sections);
                Due.is("all ways to choose " + k, x.lost(0, 5, k), waysOf(8, k));
                Due.is("so many more", x.more(0, 5, k, 0), k);
                Due.is("so many more for 999", x.more(0, 5, k, 999), k);
                Due.is("none more for 1000", x.more(0, 5, k, 1000), 0);
            }
        }
        Due.is("one of one", racks(1, 1).lost(0, 5, 1), 1);
        Due.is("one of one", racks(1, 2).more(0, 5, 1, 0), 1);
    }

    /** A switch, a junction, a selector of another rack: each is an END. */
    private static void oneOfEachKind() {
        TownExchange x = racks(4, 1);
        int[] ends = {8, 24, 115, 23};
        for (int place = 0; place < 4; place++) {
            Due.is("of " + (place + 1), x.lost(0, 9, place + 1), waysOf(4, place + 1));
            x.outlet(0, 0, 9, 3 - place, ends[place]);
            Due.is("of " + (place + 1), x.lost(0, 9, place + 1), 0);
            Due.is("of one more", place == 3 ? NONE : x.more(0, 9, place + 2, 0), place == 3 ? NONE : 1);
        }
        Due.is("of all", x.lost(0, 9, 4), 0);
        Due.is("no more are needed", x.more(0, 9, 4, 0), 0);
        Due.is("another level", x.lost(0, 8, 1), 4);
    }

    /** All that its OUTLETS lead to, each once. */
    private static void eachOnce() {
        TownExchange x = racks(4, 1);
        for (int place = 0; place < 4; place++) {
            x.outlet(0, 0, 0, place, 8);
            Due.is("8, " + (place + 1) + " times", x.lost(0, 0, 1), 0);
            Due.is("8, " + (place + 1) + " times", x.lost(0, 0, 2), 6);
        }
        x.outlet(0, 0, 0, 1, 100);
        Due.is("8, 100, 8, 8", x.lost(0, 0, 2), 0);
        Due.is("8, 100, 8, 8", x.lost(0, 0, 3), 4);
        x.outlet(0, 0, 0, 3, 100);
        Due.is("8, 100, 8, 100", x.lost(0, 0, 3), 4);
        x.outlet(0, 0, 0, 3, NONE);
        x.outlet(0, 0, 0, 0, 15);
        Due.is("15, 100, 8, nowhere", x.lost(0, 0, 3), 0);
        Due.is("15, 100, 8, nowhere", x.lost(0, 0, 4), 1);
        TownExchange y = racks(4, 2);
        for (int place = 0; place < 4; place++) {
            y.outlet(0, 0, 0, place, 8);
            y.outlet(0, 1, 0, place, place < 2 ? 8 : 9);
        }
        Due.is("one shared, one of section 1: two of section 0 or three", y.lost(0, 0, 2), 1);
        Due.is("three", y.lost(0, 0, 3), 4);
        Due.is("one shared more", y.more(0, 0, 3, 0), 1);
    }

    /** ".. that are not OUT (held or not)". */
    private static void outOrHeld() {
        TownExchange x = racks(4, 1);
        x.line(0, 1, 0);
        x.outlet(0, 0, 0, 0, 8);
        x.outlet(0, 0, 0, 3, 100);
        Due.is("two", x.lost(0, 0, 2), 0);
        x.faulty(8, true);
        Due.is("faulty", x.lost(0, 0, 2), 0);
        x.faulty(8, false);
        Due.call(x, 0, "0");
        Due.is("held", x.held(8), 0);
        Due.is("held", x.lost(0, 0, 2), 0);
        x.out(8, true);
        Due.is("held and out", x.lost(0, 0, 2), 6);
        Due.is("held and out", x.lost(0, 0, 1), 0);
        x.end(0);
        Due.is("out", x.lost(0, 0, 2), 6);
        Due.is("out", x.more(0, 0, 2, 0), 1);
        x.out(8, false);
        Due.is("not out", x.lost(0, 0, 2), 0);
        Due.call(x, 0, "0");
        x.out(8, true);
        x.end(0);
        Due.call(x, 0, "0");
        Due.is("the junction is held", x.held(100), 0);
        Due.is("the junction is held", x.lost(0, 0, 1), 0);
        Due.is("the junction is held", x.lost(0, 0, 2), 6);
    }

    /** All ways to choose k SWITCHES of the RACK (all of them, held or OUT or not). */
    private static void allSwitchesCount() {
        TownExchange x = racks(8, 2);
        x.line(0, 1, 0);
        x.outlet(0, 0, 0, 0, 8);
        x.outlet(0, 1, 0, 0, 9);
        int[] lost = {0, 12, 56, 70, 56, 28, 8, 1};
        for (int round = 0; round < 3; round++) {
            for (int k = 1; k <= 8; k++) {
                Due.is("of " + k + " in round " + round, x.lost(0, 0, k), lost[k - 1]);
            }
            x.lift(0);
            x.out(round, true);
            x.out(7 - round, true);
            x.faulty(3, true);
        }
    }

    /** SHARED are those of both SECTIONS, at whatever places. */
    private static void sections() {
        TownExchange x = racks(2, 2);
        x.outlet(0, 0, 0, 0, 8);
        Due.is("section 1 has none", x.lost(0, 0, 1), 1);
        Due.is("both", x.lost(0, 0, 2), 1);
        x.outlet(0, 1, 0, 3, 8);
        Due.is("shared", x.lost(0, 0, 1), 0);
        Due.is("one for both", x.lost(0, 0, 2), 1);
        Due.is("one shared more", x.more(0, 0, 2, 0), 1);
        x.outlet(0, 1, 0, 0, 9);
        Due.is("its own", x.lost(0, 0, 2), 0);
        x.outlet(0, 0, 0, 0, NONE);
        Due.is("not shared any more", x.lost(0, 0, 1), 1);
        x.outlet(0, 0, 1, 0, 8);
        Due.is("another level is not shared", x.lost(0, 0, 1), 1);
        TownExchange y = racks(1, 2);
        y.outlet(0, 1, 0, 0, 8);
        Due.is("nobody is of section 1", y.lost(0, 0, 1), 1);
        y.outlet(0, 0, 0, 2, 8);
        Due.is("shared", y.lost(0, 0, 1), 0);
    }

    /** Whether w0 and w1 get through: some of the SHARED ENDS are for section 0, the others for section 1. */
    private static boolean through(int w0, int w1, int own0, int own1, int shared) {
        for (int s = 0; s <= shared; s++) {
            if (w0 <= own0 + s && w1 <= own1 + shared - s) {
                return true;
            }
        }
        return false;
    }

    /** Choices of switches one by one. */
    private static int lost(int switches, int sections, int k, int own0, int own1, int shared) {
        int lost = 0;
        for (int choice = 0; choice < 1 << switches; choice++) {
            if (Integer.bitCount(choice) == k) {
                int odd = sections == 2 ? Integer.bitCount(choice & 0xaa) : 0;
                lost += through(k - odd, odd, own0, own1, shared) ? 0 : 1;
            }
        }
        return lost;
    }

    private static TownExchange with(int switches, int own0, int own1, int shared) {
        TownExchange x = racks(switches, 2);
        for (int i = 0; i < own0; i++) {
            x.outlet(0, 0, 4, i, 8 + i);
        }
        for (int i = 0; i < own1; i++) {
            x.outlet(0, 1, 4, 3 - i, 100 + i);
        }
        for (int i = 0; i < shared; i++) {
            x.outlet(0, 0, 4, own0 + i, 16 + i);
            x.outlet(0, 1, 4, 3 - own1 - i, 16 + i);
        }
        return x;
    }

    private static void compare(String what, TownExchange x, int[] n, int level) {
        for (int k = 1; k <= n[0]; k++) {
            int all = waysOf(n[0], k);
            Due.is(what + " lost of " + k, x.lost(0, level, k), lost(n[0], n[1], k, n[2], n[3], n[4]));
            for (int more = 0; more <= k; more++) {
                int left = lost(n[0], n[1], k, n[2], n[3], n[4] + more);
                int r = (1000 * left + all - 1) / all;
                Due.is(what + " enough for " + r, x.more(0, level, k, r) <= more, true);
                if (r > 0) {
                    Due.is(what + " not enough for " + (r - 1), x.more(0, level, k, r - 1) > more, true);
                }
            }
        }
    }

    /** Every number of own and SHARED ENDS, of SWITCHES, of k, and r on both sides of each share. */
    private static void allCounts() {
        for (int switches = 1; switches <= 8; switches++) {
            for (int shared = 0; shared <= 4; shared++) {
                for (int own0 = 0; own0 + shared <= 4; own0++) {
                    for (int own1 = 0; own1 + shared <= 4; own1++) {
                        int[] n = {switches, 2, own0, own1, shared};
                        compare(java.util.Arrays.toString(n), with(switches, own0, own1, shared), n, 4);
                    }
                }
            }
        }
    }

    private static void allCountsOfOneSection() {
        for (int switches = 1; switches <= 8; switches++) {
            for (int own = 0; own <= 4; own++) {
                TownExchange x = racks(switches, 1);
                for (int i = 0; i < own; i++) {
                    x.outlet(0, 0, 0, i, 8 + i);
                }
                int[] n = {switches, 1, own, 0, 0};
                compare(java.util.Arrays.toString(n), x, n, 0);
            }
        }
    }

    /** r of 1000 of all ways at most. */
    private static void exactlyR() {
        TownExchange x = racks(4, 2);
        x.outlet(0, 0, 0, 0, 8);
        x.outlet(0, 1, 0, 0, 9);
        x.outlet(0, 1, 0, 1, 10);
        // of 2: both of section 0 are one of six ways: 166.7
        Due.is("one of six", x.lost(0, 0, 2), 1);
        Due.is("166", x.more(0, 0, 2, 166), 1);
        Due.is("167", x.more(0, 0, 2, 167), 0);
        // of 3: both of section 0 and one more are two of four ways: 500
        Due.is("two of four", x.lost(0, 0, 3), 2);
        Due.is("499", x.more(0, 0, 3, 499), 1);
        Due.is("500", x.more(0, 0, 3, 500), 0);
        Due.is("501", x.more(0, 0, 3, 501), 0);
        Due.is("all", x.lost(0, 0, 4), 1);
        Due.is("999", x.more(0, 0, 4, 999), 1);
        Due.is("1000", x.more(0, 0, 4, 1000), 0);
        TownExchange y = racks(8, 1);
        Due.is("7 of 8 lost", y.more(0, 0, 8, 999), 8);
    }

    /** The ENDS of another RACK or LEVEL do not count. */
    private static void endsOfOthers() {
        TownExchange x = racks(2, 2);
        x.outlet(3, 0, 0, 0, 8);
        x.outlet(0, 0, 1, 0, 8);
        x.outlet(0, 1, 9, 3, 8);
        Due.is("none at level 0", x.lost(0, 0, 1), 2);
        Due.is("one for section 0 at level 1", x.lost(0, 1, 1), 1);
        Due.is("one for section 1 at level 9", x.lost(0, 9, 1), 1);
        Due.is("rack 3", x.lost(3, 0, 1), 0);
        Due.is("rack 3", x.lost(3, 1, 1), 2);
    }

    private static void refused() {
        Refused town = new Refused(Refused::town);
        town.none("lost of finals", x -> x.lost(1, 4, 1));
        town.none("lost of 0", x -> x.lost(0, 4, 0));
        town.none("lost of 9", x -> x.lost(0, 4, 9));
        town.none("more, r 1001", x -> x.more(0, 4, 2, 1001));
        town.none("more, r -1", x -> x.more(0, 4, 2, -1));
        town.is("lost", x -> x.lost(0, 4, 8), 1);
        town.is("more", x -> x.more(0, 4, 8, 0), 5);
    }
}
