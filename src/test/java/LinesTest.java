/** Promises 1 (a new object), 3 (line), 4 (set) and 14 (of). */
public final class LinesTest {
    private static final int NONE = LostSevens.NONE;

    public static void main(String[] args) {
        newObject();
        lines();
        settings();
        of();
        Due.close();
    }

    private static void newObject() {
        LostSevens x = new LostSevens();
        for (int what = 0; what <= 6; what++) {
            Due.due("tells " + what, x.tells(what), 0);
        }
        for (int kind = 0; kind < 4; kind++) {
            Due.due("rules of " + kind, x.tells(10 + kind), 0);
        }
        for (int what = 0; what < 3; what++) {
            Due.due("read " + what, x.read(what, NONE), 0);
        }
        Due.due("creep", x.creep(), 0);
        Due.due("no line", x.of(0, 0), NONE);
        Due.due("no fault", x.fault(0), 0);
        Due.due("no place", x.fault(1), NONE);
        Due.due("no image", x.image(false), false);
        Due.due("no undo", x.undo(), false);
    }

    private static void lines() {
        LostSevens x = new LostSevens();
        int[][] wrong = {{-1, 1, 0, 0, 0, 0}, {8, 1, 0, 0, 0, 0}, {0, -1, 0, 0, 0, 0},
            {0, 8, 0, 0, 0, 0}, {3, 3, 0, 0, 0, 0}, {0, 1, -1, 0, 0, 0}, {0, 1, 4, 0, 0, 0},
            {0, 1, 0, -1, 0, 0}, {0, 1, 0, 1024, 0, 0}, {0, 1, 0, 0, -1, 0},
            {0, 1, 0, 0, 1024, 0}, {0, 1, 0, 0, 0, -1}, {0, 1, 0, 0, 0, 1001},
            {Integer.MIN_VALUE, Integer.MAX_VALUE, 0, 0, 0, 0}};
        for (int[] w : wrong) {
            Due.due("wrong line", x.line(w[0], w[1], w[2], w[3], w[4], w[5]), NONE);
        }
        Due.due("none came", x.tells(0), 0);
        for (int i = 0; i < 12; i++) {
            Due.due("line " + i, x.line(7, i % 7, 3, 1023, 1023, 1000), i);
        }
        Due.due("the thirteenth", x.line(0, 1, 0, 0, 0, 0), NONE);
        Due.due("twelve", x.tells(0), 12);
    }

    private static void settings() {
        LostSevens x = new LostSevens();
        Due.due("no line yet", x.set(0, 0, 0), false);
        x.line(0, 1, 0, 0, 0, 0);
        x.line(1, 2, 1, 2, 4, 8);
        int[] most = {1023, 1023, 1000, 3, 1};
        int[] asked = {3, 4, 5, 2, 6};
        for (int what = 0; what < 5; what++) {
            Due.due("least", x.set(1, what, 0), true);
            Due.due("is least", x.of(1, asked[what]), 0);
            Due.due("most", x.set(1, what, most[what]), true);
            Due.due("is most", x.of(1, asked[what]), most[what]);
            Due.due("above", x.set(1, what, most[what] + 1), false);
            Due.due("below", x.set(1, what, -1), false);
            Due.due("stays", x.of(1, asked[what]), most[what]);
            Due.due("the other line stays", x.of(0, asked[what]), 0);
        }
        Due.due("another what", x.set(1, 5, 0), false);
        Due.due("what below", x.set(1, -1, 0), false);
        Due.due("no such line", x.set(2, 0, 0), false);
        Due.due("line below", x.set(-1, 0, 0), false);
    }

    private static void of() {
        LostSevens x = new LostSevens();
        x.line(5, 2, 3, 129, 66, 77);
        int[] told = {5, 2, 3, 129, 66, 77, 0};
        for (int what = 0; what < told.length; what++) {
            Due.due("of " + what, x.of(0, what), told[what]);
        }
        Due.due("of 7", x.of(0, 7), NONE);
        Due.due("of 9", x.of(0, 9), NONE);
        Due.due("of -1", x.of(0, -1), NONE);
        Due.due("of 20", x.of(0, 20), NONE);
        Due.due("of the least", x.of(0, Integer.MIN_VALUE), NONE);
        Due.due("line 1", x.of(1, 0), NONE);
        Due.due("line -1", x.of(-1, 0), NONE);
        Due.paper(x, "7077890");
        x.send(2, 0, NONE, NONE, NONE);
        x.send(5, 0, NONE, NONE, NONE);
        for (int d = 0; d < 10; d++) {
            Due.due("lost " + d, x.of(0, 10 + d), d == 7 ? 6 : d == 0 ? 4 : 0);
        }
        x.set(0, 4, 1);
        Due.paper(x, "1661");
        x.send(2, 0, 0, NONE, NONE);
        Due.due("1 in frost", x.of(0, 11), 2);
        Due.due("6 in frost", x.of(0, 16), 2);
        Due.due("7 as before", x.of(0, 17), 6);
    }
}
