/** Lost calls counted exactly: promises 20, 21. */
public final class LossTest {
    public static void main(String[] args) {
        twoSections();
        oneSection();
        whatCounts();
        wrongOnes();
        Due.finish("LossTest");
    }

    private static TownExchange exchange(int switches, int sections) {
        TownExchange x = new TownExchange();
        x.rack(0, switches, sections);
        x.rack(1, 8, 1);
        return x;
    }

    private static void twoSections() {
        TownExchange x = exchange(8, 2);
        x.outlet(0, 0, 1, 0, 8);
        x.outlet(0, 0, 1, 1, 9);
        x.outlet(0, 0, 1, 2, 10);
        x.outlet(0, 1, 1, 0, 10);
        x.outlet(0, 1, 1, 1, 11);
        // own 2 and 1, one shared; 4 switches in each section
        int[] lost = {
            0,
            0,                          // (0,2) has one over, for the shared one
            4,                          // (0,3)
            1 + 4 * 4 + 1,              // (0,4) (1,3) (4,0)
            4 + 6 * 4 + 4 * 6 + 4,      // (1,4) (2,3) (3,2) (4,1)
            28, 8, 1};
        for (int k = 1; k <= 8; k++) {
            Due.is("lost of " + k, x.lost(0, 1, k), lost[k - 1]);
        }
        Due.is("more, k 4, none lost", x.more(0, 1, 4, 0), 2);
        Due.is("18 of 70 is 257.1", x.more(0, 1, 4, 257), 1);
        Due.is("258", x.more(0, 1, 4, 258), 0);
        Due.is("all may be lost", x.more(0, 1, 8, 1000), 0);
        Due.is("999", x.more(0, 1, 8, 999), 4);
    }

    private static void oneSection() {
        TownExchange x = exchange(5, 1);
        Due.is("nothing leads", x.lost(0, 3, 1), 5);
        Due.is("nothing leads, 5", x.lost(0, 3, 5), 1);
        Due.is("more", x.more(0, 3, 5, 0), 5);
        x.outlet(0, 0, 3, 3, 8);
        x.outlet(0, 0, 3, 1, 100);
        Due.is("two", x.lost(0, 3, 2), 0);
        Due.is("three", x.lost(0, 3, 3), 10);
        Due.is("one more", x.more(0, 3, 3, 0), 1);

        TownExchange y = exchange(1, 2);
        y.outlet(0, 1, 3, 0, 8);
        Due.is("the other section's end", y.lost(0, 3, 1), 1);
        y.outlet(0, 0, 3, 0, 8);
        Due.is("shared", y.lost(0, 3, 1), 0);
    }

    private static void whatCounts() {
        TownExchange x = exchange(4, 1);
        x.outlet(0, 0, 1, 0, 8);
        x.outlet(0, 0, 1, 1, 8);
        x.outlet(0, 0, 1, 2, 9);
        Due.is("each once", x.lost(0, 1, 3), 4);
        Due.is("each once", x.lost(0, 1, 2), 0);
        x.out(9, true);
        Due.is("not those that are out", x.lost(0, 1, 2), 6);
        x.out(9, false);
        x.faulty(9, true);
        x.out(0, true);
        x.line(0, 1, 5);
        x.lift(0);
        x.dial(0, 1);
        Due.is("faulty, held, switches that are out: no matter", x.lost(0, 1, 2), 0);
    }

    private static void wrongOnes() {
        TownExchange x = exchange(4, 2);
        int[][] wrong = {{1, 0, 1}, {2, 0, 1}, {-1, 0, 1}, {0, -1, 1}, {0, 10, 1}, {0, 0, 0}, {0, 0, 5}, {0, 0, -1}};
        for (int[] w : wrong) {
            Due.is("lost", x.lost(w[0], w[1], w[2]), -1);
            Due.is("more", x.more(w[0], w[1], w[2], 0), -1);
        }
        Due.is("r -1", x.more(0, 0, 1, -1), -1);
        Due.is("r 1001", x.more(0, 0, 1, 1001), -1);
        Due.is("r 1000", x.more(0, 0, 1, 1000), 0);
    }
}
