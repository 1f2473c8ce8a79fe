/** Lifting, dialling, answering, ending, and what can be seen of it: promises 9 to 12, 26 to 28, 30. */
public final class CallTest {
    public static void main(String[] args) {
        lift();
        dialLocal();
        dialStates();
        sections();
        junctions();
        answerAndEnd();
        look();
        counts();
        longPath();
        Due.finish("CallTest");
    }

    private static void lift() {
        TownExchange x = Due.small();
        Due.is("lift(-1)", x.lift(-1), -1);
        Due.is("lift(4)", x.lift(4), -1);
        for (int i = 0; i < 4; i++) {
            Due.is("lift(" + i + ")", x.lift(i), 0);
            Due.is("takes the first free", x.path(i, 0), i);
        }
        Due.is("lift again", x.lift(0), -1);
        x.line(0, 1, 50);
        Due.is("nothing is free", x.lift(4), 7);
        Due.is("holds nothing", x.path(4, 0), -1);
        Due.is("quiet", x.look(4, 0), 0);
        x.end(1);
        Due.is("a free one", x.lift(4), 0);
        Due.is("it is 1", x.path(4, 0), 1);
        TownExchange y = Due.small();
        Due.call(y, 0, "411");
        Due.is("a called line can't be lifted", y.lift(1), -1);
    }

    private static void dialLocal() {
        TownExchange x = Due.small();
        Due.is("quiet", x.dial(0, 4), -1);
        x.lift(0);
        Due.is("digit 10", x.dial(0, 10), -1);
        Due.is("digit -1", x.dial(0, -1), -1);
        Due.is("line 4", x.dial(4, 1), -1);
        Due.is("line -1", x.dial(-1, 1), -1);
        Due.is("4", x.dial(0, 4), 1);
        Due.is("holds 8", x.held(8), 0);
        Due.is("1", x.dial(0, 1), 1);
        Due.is("2: rung", x.dial(0, 2), 5);
        Due.is("called", x.look(2, 0), 2);
        Due.is("a called line can't dial", x.dial(2, 1), -1);
        Due.is("more digits", x.dial(0, 4), 5);
        Due.is("digits taken", x.look(0, 4), 3);
    }

    private static void dialStates() {
        TownExchange x = Due.small();
        Due.is("dead level", Due.call(x, 0, "5"), 4);
        Due.is("dead stays", x.dial(0, 4), 4);
        Due.is("digits up to dead", x.look(0, 4), 1);
        x.end(0);
        Due.is("itself is busy", Due.call(x, 0, "410"), 3);
        x.end(0);
        Due.is("no such number", Due.call(x, 0, "499"), 4);
        Due.is("digits up to it", x.look(0, 4), 3);
        x.lift(1);
        Due.is("takes the second final", x.dial(1, 4), 1);
        Due.is("it is 9", x.path(1, 1), 9);
        x.lift(2);
        Due.is("none is free: busy", x.dial(2, 4), 3);
        Due.is("head is the selector", x.look(2, 2), 2);
        Due.is("digits up to busy", x.look(2, 4), 1);
        Due.is("digits change nothing", x.dial(2, 9), 3);
        x.end(0);
        Due.is("busy stays though one is free now", x.dial(2, 4), 3);
        Due.is("calling line is busy", Due.dialAll(x, 1, "12"), 3);

        TownExchange y = Due.small();
        y.out(8, true);
        y.out(9, true);
        Due.is("all out: busy, not dead", Due.call(y, 0, "4"), 3);
        y.end(0);
        y.out(9, false);
        y.faulty(9, true);
        Due.is("faulty final: silent", Due.call(y, 0, "411"), 2);
        Due.is("it is held", y.held(9), 0);
        Due.is("digits up to silent", y.look(0, 4), 1);
    }

    private static void sections() {
        TownExchange x = new TownExchange();
        x.rack(0, 4, 2);
        x.rack(1, 2, 1);
        x.outlet(0, 0, 1, 3, 8);
        x.outlet(0, 1, 1, 2, 9);
        x.line(0, 1, 0);
        x.line(0, 1, 1);
        Due.is("section 0", Due.call(x, 0, "1"), 1);
        Due.is("by its outlet", x.path(0, 1), 8);
        Due.is("section 1", Due.call(x, 1, "1"), 1);
        Due.is("by its outlet", x.path(1, 1), 9);
        Due.is("number 00", Due.dialAll(x, 1, "00"), 3);
    }

    private static void junctions() {
        TownExchange x = Due.small();
        Due.is("junction", Due.call(x, 0, "9"), 1);
        Due.is("held", x.held(100), 0);
        Due.is("head", x.look(0, 2), 100);
        Due.is("first", x.dial(0, 0), 1);
        Due.is("second", x.dial(0, 0), 1);
        Due.is("third: rung", x.dial(0, 0), 5);
        Due.is("no line is rung", x.look(0, 3), -1);
        Due.is("digits", x.look(0, 4), 4);
        Due.is("held junctions", x.count(12), 1);
        Due.is("taken: busy", Due.call(x, 1, "9"), 3);
        x.end(0);
        Due.is("free", x.held(100), -1);
        Due.is("another line", Due.call(x, 0, "9123"), 5);
    }

    private static void answerAndEnd() {
        TownExchange x = Due.small();
        Due.is("answer quiet", x.answer(0), false);
        Due.is("answer none", x.answer(4), false);
        Due.is("answer -1", x.answer(-1), false);
        Due.is("end quiet", x.end(0), -1);
        Due.is("end none", x.end(4), -1);
        Due.is("end -1", x.end(-1), -1);
        x.lift(0);
        Due.is("not rung", x.answer(0), false);
        Due.dialAll(x, 0, "411");
        Due.is("the called one can't answer for itself", x.answer(1), false);
        Due.is("answered", x.answer(0), true);
        Due.is("twice", x.answer(0), false);
        Due.is("digits change nothing", x.dial(0, 1), 6);
        Due.is("the called one can't end it", x.end(1), -1);
        Due.is("ended", x.end(0), 0);
        Due.is("both quiet", x.look(0, 0) + x.look(1, 0), 0);
        Due.is("all free", x.count(4), 0);
        Due.is("in the book", x.count(5), 1);
        Due.call(x, 0, "411");
        Due.is("rung only", x.end(0), 0);
        Due.is("not in the book", x.count(5), 1);
        Due.is("called line is quiet again", x.lift(1), 0);
    }

    private static void look() {
        TownExchange x = Due.small();
        x.seconds(77);
        for (int what = 1; what <= 5; what++) {
            Due.is("quiet, look " + what, x.look(0, what), -1);
        }
        x.lift(0);
        int[] lifted = {1, 0, 0, -1, 0, -1};
        Due.dialAll(x, 0, "");
        for (int what = 0; what <= 5; what++) {
            Due.is("lifted, look " + what, x.look(0, what), lifted[what]);
        }
        Due.dialAll(x, 0, "413");
        x.answer(0);
        int[] answered = {1, 6, 8, 3, 3, 77};
        for (int what = 0; what <= 5; what++) {
            Due.is("answered, look " + what, x.look(0, what), answered[what]);
            Due.is("called, look " + what, x.look(3, what), what == 0 ? 2 : -1);
        }
        Due.is("path 0", x.path(0, 0), 0);
        Due.is("path 1", x.path(0, 1), 8);
        Due.is("path 2", x.path(0, 2), -1);
        Due.is("path -1", x.path(0, -1), -1);
        Due.is("path of the called", x.path(3, 0), -1);
        Due.is("path of none", x.path(4, 0), -1);
        Due.is("held 0", x.held(0), 0);
        Due.is("held 1", x.held(1), -1);
        Due.is("held 99", x.held(99), -1);
        Due.is("held 116", x.held(116), -1);
        Due.is("held -1", x.held(-1), -1);
        Due.lookThrows("look(4, 0)", x, 4, 0);
        Due.lookThrows("look(-1, 0)", x, -1, 0);
        Due.lookThrows("look(0, 6)", x, 0, 6);
        Due.lookThrows("look(0, -1)", x, 0, -1);
        x.end(0);
        Due.is("answered at: gone", x.look(0, 5), -1);
        Due.call(x, 0, "411");
        Due.is("a new call is not answered", x.look(0, 5), -1);
    }

    private static void counts() {
        TownExchange x = Due.small();
        x.seconds(5);
        Due.call(x, 0, "411");
        Due.call(x, 2, "9");
        Due.feed(x, "abc");
        x.test(3, 4, 1);
        x.test(3, 412, 3);
        int[] want = {5, 2, 4, 2, 3, 0, 0, 0, 0, 0, 3, 6, 1};
        for (int what = 0; what < want.length; what++) {
            Due.is("count(" + what + ")", x.count(what), want[what]);
        }
        Due.is("count(13)", x.count(13), -1);
        Due.is("count(-1)", x.count(-1), -1);
    }

    /** Selectors that lead to one another take more than five digits. */
    private static void longPath() {
        TownExchange x = new TownExchange();
        x.rack(0, 8, 1);
        x.rack(0, 8, 1);
        x.rack(1, 1, 1);
        for (int place = 0; place < 4; place++) {
            x.outlet(0, 0, 1, place, 8 + place);
            x.outlet(1, 0, 1, place, place);
        }
        x.outlet(0, 0, 2, 0, 16);
        x.outlet(1, 0, 2, 0, 16);
        x.line(0, 2, 0);
        x.line(1, 2, 1);
        Due.is("round and round", Due.call(x, 0, "1111111"), 1);
        Due.is("eight are held", x.count(4), 8);
        Due.is("the eighth", x.path(0, 7), 11);
        Due.is("rung at last", Due.dialAll(x, 0, "201"), 5);
        Due.is("ten digits", x.look(0, 4), 10);
        x.end(0);
        Due.is("all free", x.count(4), 0);
        Due.is("round until busy", Due.call(x, 0, "11111111"), 3);
        Due.is("eight digits", x.look(0, 4), 8);
    }
}
