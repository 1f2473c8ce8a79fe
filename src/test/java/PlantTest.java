/** Time, racks, outlets, zones, lines, out and faulty: promises 2 to 8. */
public final class PlantTest {
    public static void main(String[] args) {
        seconds();
        racks();
        outlets();
        zones();
        lines();
        outAndFaulty();
        Due.finish("PlantTest");
    }

    private static void seconds() {
        TownExchange x = new TownExchange();
        Due.is("seconds(0)", x.seconds(0), 0);
        Due.is("seconds(-1)", x.seconds(-1), -1);
        Due.is("seconds(100001)", x.seconds(100001), -1);
        Due.is("seconds(max)", x.seconds(Integer.MAX_VALUE), -1);
        for (int i = 1; i <= 9; i++) {
            Due.is("seconds(100000)", x.seconds(100000), i * 100000);
        }
        Due.is("beyond 999999", x.seconds(100000), -1);
        Due.is("stays", x.count(0), 900000);
        Due.is("to 999999", x.seconds(99999), 999999);
        Due.is("one more", x.seconds(1), -1);
        Due.is("none more", x.seconds(0), 999999);
    }

    private static void racks() {
        TownExchange x = new TownExchange();
        Due.is("kind -1", x.rack(-1, 1, 1), -1);
        Due.is("kind 2", x.rack(2, 1, 1), -1);
        Due.is("no switches", x.rack(0, 0, 1), -1);
        Due.is("9 switches", x.rack(1, 9, 1), -1);
        Due.is("no sections", x.rack(0, 1, 0), -1);
        Due.is("3 sections", x.rack(0, 8, 3), -1);
        Due.is("finals in 2 sections", x.rack(1, 8, 2), -1);
        Due.is("finals in 0 sections", x.rack(1, 8, 0), -1);
        Due.is("one switch in 2 sections", x.rack(0, 1, 2), 0);
        for (int i = 1; i < 12; i++) {
            Due.is("rack " + i, x.rack(i % 2, 8, 1), i);
        }
        Due.is("a thirteenth", x.rack(0, 1, 1), -1);
        Due.is("racks", x.count(1), 12);
        Due.is("switches", x.count(11), 89);
    }

    private static void outlets() {
        TownExchange x = new TownExchange();
        x.rack(0, 3, 2);
        x.rack(1, 2, 1);
        x.rack(0, 1, 1);
        Due.is("to a final", x.outlet(0, 0, 0, 0, 8), true);
        Due.is("section 1", x.outlet(0, 1, 9, 3, 9), true);
        Due.is("to a selector", x.outlet(0, 1, 9, 2, 16), true);
        Due.is("back", x.outlet(2, 0, 5, 0, 2), true);
        Due.is("nowhere", x.outlet(0, 0, 0, 0, -1), true);
        Due.is("junction 0", x.outlet(0, 0, 0, 0, 100), true);
        Due.is("junction 15", x.outlet(0, 0, 0, 0, 115), true);
        Due.is("junction 16", x.outlet(0, 0, 0, 0, 116), false);
        Due.is("end 99", x.outlet(0, 0, 0, 0, 99), false);
        Due.is("end -2", x.outlet(0, 0, 0, 0, -2), false);
        Due.is("same rack", x.outlet(0, 0, 0, 0, 1), false);
        Due.is("no such switch", x.outlet(0, 0, 0, 0, 10), false);
        Due.is("no such switch of rack 2", x.outlet(0, 0, 0, 0, 17), false);
        Due.is("no such rack's switch", x.outlet(0, 0, 0, 0, 24), false);
        Due.is("of finals", x.outlet(1, 0, 0, 0, 0), false);
        Due.is("rack 3", x.outlet(3, 0, 0, 0, 8), false);
        Due.is("rack -1", x.outlet(-1, 0, 0, 0, 8), false);
        Due.is("section 2", x.outlet(0, 2, 0, 0, 8), false);
        Due.is("section -1", x.outlet(0, -1, 0, 0, 8), false);
        Due.is("section 1 of one", x.outlet(2, 1, 0, 0, 8), false);
        Due.is("level 10", x.outlet(0, 0, 10, 0, 8), false);
        Due.is("level -1", x.outlet(0, 0, -1, 0, 8), false);
        Due.is("place 4", x.outlet(0, 0, 0, 4, 8), false);
        Due.is("place -1", x.outlet(0, 0, 0, -1, 8), false);

        TownExchange y = Due.small();
        y.lift(0);
        y.dial(0, 4);
        Due.is("led nowhere while held", y.outlet(0, 0, 4, 0, -1), true);
        Due.is("what is held stays", y.held(8), 0);
        Due.is("and goes on", Due.dialAll(y, 0, "11"), 5);
        Due.is("the next takes the second place", Due.call(y, 2, "4"), 1);
        Due.is("it is 9", y.look(2, 2), 9);
    }

    private static void zones() {
        TownExchange x = new TownExchange();
        Due.is("zone(0, 1)", x.zone(0, 1), true);
        Due.is("zone(15, 9)", x.zone(15, 9), true);
        Due.is("zone(16, 1)", x.zone(16, 1), false);
        Due.is("zone(-1, 1)", x.zone(-1, 1), false);
        Due.is("zone(100, 1)", x.zone(100, 1), false);
        Due.is("zone(0, 0)", x.zone(0, 0), false);
        Due.is("zone(0, 10)", x.zone(0, 10), false);
    }

    private static void lines() {
        TownExchange x = new TownExchange();
        x.rack(0, 1, 1);
        x.rack(1, 1, 1);
        x.rack(1, 1, 1);
        Due.is("home finals", x.line(1, 1, 0), -1);
        Due.is("last selectors", x.line(0, 0, 0), -1);
        Due.is("no home", x.line(3, 1, 0), -1);
        Due.is("home -1", x.line(-1, 1, 0), -1);
        Due.is("no last", x.line(0, 3, 0), -1);
        Due.is("number -1", x.line(0, 1, -1), -1);
        Due.is("number 100", x.line(0, 1, 100), -1);
        Due.is("number 99", x.line(0, 1, 99), 0);
        Due.is("told", x.line(0, 1, 99), -1);
        Due.is("in another rack", x.line(0, 2, 99), 1);
        for (int i = 2; i < 40; i++) {
            Due.is("line " + i, x.line(0, 1, i), i);
        }
        Due.is("a 41st", x.line(0, 1, 50), -1);
        Due.is("lines", x.count(2), 40);
    }

    private static void outAndFaulty() {
        TownExchange x = Due.small();
        int[] none = {-1, 4, 7, 10, 16, 96, 99, 100, 115, Integer.MAX_VALUE, Integer.MIN_VALUE};
        for (int which : none) {
            Due.is("out " + which, x.out(which, true), false);
            Due.is("faulty " + which, x.faulty(which, true), false);
        }
        Due.is("out 0", x.out(0, true), true);
        Due.is("lift takes 1", x.lift(0), 0);
        Due.is("it is 1", x.path(0, 0), 1);
        Due.is("out while held", x.out(1, true), true);
        Due.is("what is held stays", x.held(1), 0);
        Due.is("it goes on", x.dial(0, 4), 1);
        x.out(0, false);
        Due.is("not out again", x.lift(1), 0);
        Due.is("it is 0", x.path(1, 0), 0);
        Due.is("faulty 2", x.faulty(2, true), true);
        Due.is("silent", x.lift(2), 2);
        Due.is("digits change nothing", x.dial(2, 4), 2);
        Due.is("no digit is taken", x.look(2, 4), 0);
        x.faulty(2, false);
        Due.is("still silent", x.dial(2, 4), 2);
        x.end(2);
        Due.is("sound when met next", x.lift(2), 0);
        x.faulty(2, true);
        Due.is("faulty only when met next", x.look(2, 1), 0);
        Due.is("and it steps", x.dial(2, 9), 1);
        Due.is("all out: nothing is free", outAll(), 7);
    }

    private static int outAll() {
        TownExchange x = Due.small();
        for (int i = 0; i < 4; i++) {
            x.out(i, true);
        }
        int state = x.lift(0);
        Due.is("stays quiet", x.look(0, 0), 0);
        return state;
    }
}
