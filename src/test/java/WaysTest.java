/** Promise 21 (best). */
public final class WaysTest {
    private static final int NONE = LostSevens.NONE;

    public static void main(String[] args) {
        fewestLost();
        fewestLines();
        firstByNumber();
        longWays();
        onTheWay();
        cantBe();
        Due.close();
    }

    private static void bestIs(LostSevens x, int from, int to, int lost, int... lines) {
        Due.due("lost", x.best(from, to, 0), lost);
        Due.due("lines", x.best(from, to, 1), lines.length);
        for (int i = 0; i < lines.length; i++) {
            Due.due("line " + i, x.best(from, to, 10 + i), lines[i]);
        }
        Due.due("behind them", x.best(from, to, 10 + lines.length), NONE);
    }

    private static void fewestLost() {
        LostSevens x = new LostSevens();
        x.line(0, 3, 0, 0x80, 0, 0);
        x.line(0, 1, 0, 0, 0x80, 0);
        x.line(2, 1, 0, 0, 0, 0);
        x.line(2, 3, 0, 2, 0, 0);
        Due.paper(x, "771");
        bestIs(x, 0, 3, 1, 1, 2, 3);
        bestIs(x, 3, 0, 1, 3, 2, 1);
        x.set(1, 4, 1);
        bestIs(x, 0, 3, 2, 0);
        Due.paper(x, "71");
        bestIs(x, 0, 3, 1, 0);
        Due.paper(x, "11");
        bestIs(x, 0, 3, 0, 0);
        Due.due("nothing is sent", x.tells(3) + x.tells(2), 0);
    }

    private static void fewestLines() {
        LostSevens x = new LostSevens();
        x.line(0, 1, 0, 0, 0, 0);
        x.line(1, 2, 0, 0, 0, 0);
        x.line(2, 3, 0, 0, 0, 0);
        x.line(1, 3, 0, 0, 0, 0);
        x.line(0, 3, 0, 1, 0, 0);
        Due.paper(x, "5");
        bestIs(x, 0, 3, 0, 4);
        Due.paper(x, "50");
        bestIs(x, 0, 3, 0, 0, 3);
        x.set(3, 0, 1);
        bestIs(x, 0, 3, 0, 0, 1, 2);
        x.blank(0);
        bestIs(x, 0, 3, 0, 4);
    }

    private static void firstByNumber() {
        LostSevens x = new LostSevens();
        x.line(5, 6, 0, 0, 0, 0);
        x.line(4, 5, 0, 0, 0, 0);
        x.line(4, 7, 0, 0, 0, 0);
        x.line(7, 6, 0, 0, 0, 0);
        x.line(5, 4, 0, 0, 0, 0);
        Due.paper(x, "12");
        bestIs(x, 4, 6, 0, 1, 0);
        bestIs(x, 6, 4, 0, 0, 1);
        x.set(1, 0, 2);
        bestIs(x, 4, 6, 0, 2, 3);
        bestIs(x, 6, 4, 0, 0, 4);
    }

    /** More lines than a sending may have, and no station twice. */
    private static void longWays() {
        LostSevens x = new LostSevens();
        for (int i = 0; i < 7; i++) {
            x.line(i, i + 1, 0, 1 << i, 0, 0);
        }
        Due.paper(x, "0123456789");
        bestIs(x, 0, 7, 7, 0, 1, 2, 3, 4, 5, 6);
        bestIs(x, 7, 0, 7, 6, 5, 4, 3, 2, 1, 0);
        bestIs(x, 2, 5, 3, 2, 3, 4);
        x.line(0, 7, 0, 0x3FF, 0, 0);
        bestIs(x, 0, 7, 7, 0, 1, 2, 3, 4, 5, 6);
        bestIs(x, 0, 1, 1, 0);
    }

    /** What comes by one line is what the next one sends; going round could lose less. */
    private static void onTheWay() {
        LostSevens x = new LostSevens();
        x.line(0, 1, 0, 0, 0, 0);
        x.line(1, 2, 1, 0x80, 0, 0);
        x.line(1, 3, 2, 0, 0, 0);
        Due.rules(x, 0, "7 to 777 when place=0;");
        Due.rules(x, 2, "7 to none;");
        Due.paper(x, "47");
        bestIs(x, 0, 2, 1, 0, 1);
        Due.paper(x, "77");
        bestIs(x, 0, 2, 4, 0, 1);
        Due.rules(x, 1, "7 to 8 when left=7;");
        bestIs(x, 0, 2, 1, 0, 1);
    }

    private static void cantBe() {
        LostSevens x = new LostSevens();
        x.line(0, 1, 0, 0, 0, 0);
        x.line(2, 3, 0, 0, 0, 0);
        int[][] wrong = {{0, 0, 0}, {0, 2, 0}, {0, 2, 1}, {0, 2, 10}, {-1, 1, 0}, {8, 1, 0},
            {0, -1, 0}, {0, 8, 0}, {0, 1, 2}, {0, 1, 9}, {0, 1, 11}, {0, 1, -1},
            {0, 1, Integer.MIN_VALUE}, {0, 1, Integer.MAX_VALUE}, {4, 5, 0}};
        for (int[] w : wrong) {
            Due.due("can't be", x.best(w[0], w[1], w[2]), NONE);
        }
    }
}
