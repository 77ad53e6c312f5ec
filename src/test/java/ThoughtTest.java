/** Promises 18 (meant), 19 (twin) and 20 (code). */
public final class ThoughtTest {
    private static final int NONE = LostSevens.NONE;

    public static void main(String[] args) {
        meant();
        meantByNeighbours();
        meantCantBe();
        twin();
        code();
        codeInFrost();
        Due.close();
    }

    private static LostSevens withLine(int loses, int freezes, String rules) {
        LostSevens x = new LostSevens();
        x.line(0, 1, 3, loses, freezes, 0);
        Due.due("rules", Due.rules(x, 3, rules) == NONE, false);
        return x;
    }

    private static void meantIs(LostSevens x, int frost, int n, int count, String first) {
        Due.due("how many of " + n, x.meant(0, frost, n, 0), count);
        if (count == 0) {
            Due.due("no first", x.meant(0, frost, n, 1), NONE);
            Due.due("no digit", x.meant(0, frost, n, 10), NONE);
            return;
        }
        Due.due("its length", x.meant(0, frost, n, 1), first.length());
        for (int i = 0; i < first.length(); i++) {
            Due.due("digit " + i, x.meant(0, frost, n, 10 + i), first.charAt(i) - '0');
        }
        Due.due("behind it", x.meant(0, frost, n, 10 + first.length()), NONE);
    }

    private static void meant() {
        LostSevens x = withLine(0x80, 0x100, "");
        meantIs(x, 0, 0, 1, "");
        meantIs(x, 0, 4, 5, "");
        meantIs(x, 1, 4, 31, "");
        Due.seen(x, "3");
        meantIs(x, 0, 0, 0, "");
        meantIs(x, 0, 1, 1, "3");
        meantIs(x, 0, 4, 1 + 2 + 3 + 4, "3");
        meantIs(x, 1, 3, 1 + 2 * 2 + 3 * 4, "3");
        Due.seen(x, "333");
        meantIs(x, 0, 2, 0, "");
        meantIs(x, 0, 4, 5, "333");
        Due.seen(x, "7");
        meantIs(x, 0, 4, 0, "");
        Due.seen(x, "33333");
        meantIs(x, 0, 4, 0, "");
        LostSevens all = withLine(0x3FF, 0, "");
        meantIs(all, 0, 4, 11111, "");
        LostSevens longer = withLine(0, 0, "1 to 0000;2 to 0000;0 to none;");
        Due.seen(longer, "000000000000");
        meantIs(longer, 0, 4, 8 + 4 * 8, "111");
        Due.due("nothing is changed", longer.tells(3) + longer.tells(2) + longer.read(2, NONE), 0);
    }

    private static void meantByNeighbours() {
        LostSevens x = withLine(0, 0, "5 to 6 when right=10 and left=4;4 to none when right=5 and length=3;");
        Due.seen(x, "46");
        meantIs(x, 0, 2, 2, "45");
        meantIs(x, 0, 4, 3, "45");
        Due.seen(x, "16");
        meantIs(x, 0, 3, 2, "16");
        Due.due("145 by the way", x.meant(0, 0, 2, 0), 1);
        LostSevens day = withLine(0, 0, "1 to 2 when day=1;1 to 3 when frost=1;");
        Due.seen(day, "2");
        meantIs(day, 0, 1, 1, "2");
        day.day();
        meantIs(day, 0, 1, 2, "1");
        Due.seen(day, "3");
        meantIs(day, 1, 1, 1, "3");
    }

    private static void meantCantBe() {
        LostSevens x = withLine(0, 0, "");
        int[][] wrong = {{1, 0, 1, 0}, {-1, 0, 1, 0}, {0, 2, 1, 0}, {0, -1, 1, 0}, {0, 0, -1, 0},
            {0, 0, 5, 0}, {0, 0, 1, 2}, {0, 0, 1, 9}, {0, 0, 1, -1}, {0, 0, 1, Integer.MIN_VALUE},
            {0, 0, 1, Integer.MIN_VALUE + 9}, {0, 0, 1, Integer.MAX_VALUE}};
        Due.seen(x, "1");
        for (int[] w : wrong) {
            Due.due("can't be", x.meant(w[0], w[1], w[2], w[3]), NONE);
        }
    }

    private static void twinIs(LostSevens x, int frost, String due) {
        Due.due("length of the twin", x.twin(0, frost, 0), due.length());
        for (int i = 0; i < due.length(); i++) {
            Due.due("digit " + i, x.twin(0, frost, 10 + i), due.charAt(i) - '0');
        }
        Due.due("behind it", x.twin(0, frost, 10 + due.length()), NONE);
    }

    private static void twin() {
        LostSevens x = withLine(0x80, 0x2, "3 to 44;");
        twinIs(x, 0, "7");
        twinIs(x, 1, "1");
        Due.paper(x, "7");
        twinIs(x, 0, "");
        Due.paper(x, "3");
        twinIs(x, 0, "37");
        Due.paper(x, "44");
        twinIs(x, 0, "3");
        Due.paper(x, "4414");
        twinIs(x, 0, "314");
        Due.paper(x, "77777");
        twinIs(x, 0, "");
        Due.seen(x, "44");
        Due.due("meant after a twin", x.meant(0, 0, 2, 0), 4);
        noTwin(x, "3333");
        noTwin(x, "33331");
        noTwin(x, "12456");
        noTwin(withLine(0, 0, ""), "12");
        noTwin(withLine(0, 0, ""), "");
        Due.due("nothing is changed", x.tells(3) + x.tells(2) + x.read(2, NONE), 0);
        Due.paper(x, "7");
        int[][] wrong = {{1, 0, 0}, {-1, 0, 0}, {0, 2, 0}, {0, -1, 0}, {0, 0, 1}, {0, 0, 9},
            {0, 0, -1}, {0, 0, Integer.MIN_VALUE}, {0, 0, Integer.MIN_VALUE + 9}};
        for (int[] w : wrong) {
            Due.due("can't be", x.twin(w[0], w[1], w[2]), NONE);
        }
    }

    private static void noTwin(LostSevens x, String paper) {
        Due.paper(x, paper);
        Due.due("no twin of " + paper, x.twin(0, 0, 0), NONE);
        Due.due("no digit of it", x.twin(0, 0, 10), NONE);
    }

    /** The first things of a code of so many digits, and that there are no more of that length. */
    private static void codeIs(LostSevens x, int k, int length, int... numbers) {
        Due.due("code for " + k, x.code(0, k, 0), length);
        for (int i = 0; i < numbers.length; i++) {
            Due.due("thing " + i, x.code(0, k, 10 + i), numbers[i]);
        }
        Due.due("thing " + k, x.code(0, k, 10 + k), NONE);
    }

    private static void code() {
        LostSevens x = withLine(0x80, 0x100, "");
        codeIs(x, 1, 1, 0);
        codeIs(x, 9, 1, 0, 1, 2, 3, 4, 5, 6, 7, 9);
        codeIs(x, 10, 2, 0, 1, 2, 3, 4, 5, 6, 7, 9, 10);
        codeIs(x, 20, 2, 0, 1, 2, 3, 4, 5, 6, 7, 9, 10, 11, 12, 13, 14, 15, 16, 17, 19, 20, 21);
        x.set(0, 4, 1);
        codeIs(x, 9, 1, 0, 1, 2, 3, 4, 5, 6, 7, 9);
        LostSevens two = withLine(0x3FC, 0, "");
        codeIs(two, 3, 1, 0, 1, 2);
        codeIs(two, 4, 2, 0, 1, 2, 10);
        codeIs(two, 7, 2, 0, 1, 2, 10, 11, 12, 22);
        codeIs(two, 15, 3, 0, 1, 2, 10, 11, 12, 22, 100, 101, 102, 110, 111, 112, 122, 222);
        Due.due("no code", two.code(0, 16, 0), NONE);
        Due.due("no thing", two.code(0, 16, 10), NONE);
        LostSevens all = withLine(0x3FF, 0, "");
        codeIs(all, 1, 1, 0);
        Due.due("no code for two", all.code(0, 2, 0), NONE);
        int[][] wrong = {{1, 1, 0}, {-1, 1, 0}, {0, 0, 0}, {0, -1, 0}, {0, 21, 0}, {0, 5, 1},
            {0, 5, 9}, {0, 5, -1}, {0, 5, 15}, {0, 5, Integer.MIN_VALUE}, {0, 5, Integer.MAX_VALUE}};
        for (int[] w : wrong) {
            Due.due("can't be", x.code(w[0], w[1], w[2]), NONE);
        }
    }

    private static void codeInFrost() {
        LostSevens x = withLine(0, 0, "1 to 2 when frost=1;");
        codeIs(x, 9, 1, 0, 1, 3, 4, 5, 6, 7, 8, 9);
        LostSevens changing = withLine(0, 0, "1 to 2 when frost=1;2 to 1 when frost=1;5 to 6 when frost=0;");
        codeIs(changing, 8, 1, 0, 1, 3, 4, 5, 7, 8, 9);
        Due.due("nine need two digits", changing.code(0, 9, 0), 2);
        LostSevens day = withLine(0, 0, "1 to 2 when day=1;");
        codeIs(day, 10, 1, 0, 1, 2);
        day.day();
        codeIs(day, 9, 1, 0, 1, 3);
        Due.due("the empty line", withLine(0, 0, "").code(0, 20, 29), 19);
        // With two digits there are 19; with three up to twelve digits must be told apart.
        LostSevens longest = withLine(0xFF, 0, "0 to 9999;1 to 9998;");
        codeIs(longest, 19, 2, 0, 1, 2, 8, 9, 10, 11, 12, 18, 19, 22, 28, 29, 80, 81, 88, 89, 98, 99);
        codeIs(longest, 20, 3, 0, 1, 2, 8, 9, 10, 11);
    }
}
