/**
 * Each call that can't be is answered with NONE (or false), and nothing is done: an object that
 * was asked so answers all else as one that was not. Thoughts leave nothing behind, either.
 */
public final class RefusedTest {
    private static final int NONE = LostSevens.NONE;
    private static final int LEAST = Integer.MIN_VALUE;
    private static final int GREATEST = Integer.MAX_VALUE;
    private static final int TAPE = 20;

    private interface Call {
        long on(LostSevens x);
    }

    private interface Maker {
        LostSevens make();
    }

    public static void main(String[] args) {
        lines();
        settings();
        papers();
        tapes();
        sendings();
        asked();
        thoughts();
        looks();
        fullOnes();
        neverThrown();
        Due.close();
    }

    /** Three lines, of which one has frost, rules, a fault, a tape, two sendings, a look. */
    private static LostSevens some() {
        LostSevens x = new LostSevens();
        x.line(0, 1, 0, 0x80, 0x100, 500);
        x.line(1, 2, 1, 0x3, 0, 0);
        x.line(2, 0, 0, 0, 0, 1000);
        Due.rules(x, 0, "5 to 77 when place=0;9 to none;");
        Due.paper(x, "5718");
        Due.seen(x, "71");
        x.day();
        x.look(0);
        x.send(0, 0, 1, NONE, NONE);
        x.send(1, 1, NONE, NONE, NONE);
        Due.rules(x, 1, "5 to 6;5 when");
        x.feed(0x37746F36, 0x7768656E, 0x28313D31, 0x293B2020, 0x20202020);
        return x;
    }

    /** Twelve lines, a full paper, all that can be seen, twenty looks, eight sendings. */
    private static LostSevens full() {
        LostSevens x = new LostSevens();
        for (int i = 0; i < 12; i++) {
            x.line(i % 7, 7, i % 4, 0x80, 0, 0);
        }
        Due.paper(x, "123456890123");
        Due.seen(x, "123456890123");
        for (int i = 0; i < 20; i++) {
            x.look(i % 12);
        }
        for (int i = 0; i < 8; i++) {
            x.send(i % 7, i, NONE, NONE, NONE);
        }
        x.feed(0x37746F36, 0x7768656E, 0x28313D31, 0x293B2020, 0x20202020);
        return x;
    }

    private static void leavesAll(String name, Maker maker, Call call) {
        LostSevens asked = maker.make();
        LostSevens other = maker.make();
        call.on(asked);
        Due.due(name + " leaves all", Snapshot.allWithTape(asked, TAPE), Snapshot.allWithTape(other, TAPE));
    }

    private static void refused(String name, Maker maker, Call call, long answer) {
        Due.due(name, call.on(maker.make()), answer);
        leavesAll(name, maker, call);
    }

    private static void none(String name, Call call) {
        refused(name, RefusedTest::some, call, NONE);
    }

    private static long flag(boolean b) {
        return b ? 1 : 0;
    }

    private static void lines() {
        int[][] wrong = {{-1, 1, 0, 0, 0, 0}, {8, 1, 0, 0, 0, 0}, {0, -1, 0, 0, 0, 0},
            {0, 8, 0, 0, 0, 0}, {0, 0, 0, 0, 0, 0}, {7, 7, 0, 0, 0, 0}, {0, 1, -1, 0, 0, 0},
            {0, 1, 4, 0, 0, 0}, {0, 1, 0, -1, 0, 0}, {0, 1, 0, 1024, 0, 0}, {0, 1, 0, 0, -1, 0},
            {0, 1, 0, 0, 1024, 0}, {0, 1, 0, 0, 0, -1}, {0, 1, 0, 0, 0, 1001}};
        for (int[] w : wrong) {
            none("line " + java.util.Arrays.toString(w), x -> x.line(w[0], w[1], w[2], w[3], w[4], w[5]));
        }
        for (int i = 0; i < 6; i++) {
            for (int v : new int[] {LEAST, GREATEST}) {
                int[] w = {0, 1, 0, 0, 0, 0};
                w[i] = v;
                none("line with " + v, x -> x.line(w[0], w[1], w[2], w[3], w[4], w[5]));
            }
        }
    }

    private static void settings() {
        int[][] wrong = {{-1, 0, 0}, {3, 0, 0}, {0, -1, 0}, {0, 5, 0}, {0, 0, -1}, {0, 0, 1024},
            {0, 1, -1}, {0, 1, 1024}, {0, 2, -1}, {0, 2, 1001}, {0, 3, -1}, {0, 3, 4}, {0, 4, -1},
            {0, 4, 2}, {LEAST, 0, 0}, {GREATEST, 0, 0}, {0, LEAST, 0}, {0, GREATEST, 0},
            {0, 0, LEAST}, {0, 2, GREATEST}, {0, 4, LEAST}, {12, 4, 1}};
        for (int[] w : wrong) {
            refused("set " + java.util.Arrays.toString(w), RefusedTest::some,
                    x -> flag(x.set(w[0], w[1], w[2])), 0);
        }
    }

    private static void papers() {
        for (int what : new int[] {-1, 2, 3, LEAST, GREATEST}) {
            none("write " + what, x -> x.write(what, 1));
            none("blank " + what, x -> x.blank(what));
        }
        for (int digit : new int[] {-1, 10, LEAST, GREATEST}) {
            none("digit " + digit, x -> x.write(0, digit));
            none("digit " + digit + " seen", x -> x.write(1, digit));
        }
        for (int what : new int[] {-1, 3, LEAST, GREATEST}) {
            none("read of " + what, x -> x.read(what, 0));
            none("length of " + what, x -> x.read(what, NONE));
        }
        for (int i : new int[] {-2, 12, 36, LEAST, GREATEST}) {
            none("digit " + i + " of the paper", x -> x.read(0, i));
            none("digit " + i + " of what was seen", x -> x.read(1, i));
            none("digit " + i + " of what came", x -> x.read(2, i));
        }
    }

    private static void tapes() {
        for (int n : new int[] {-1, TAPE + 1, 400, 401, LEAST, GREATEST}) {
            refused("end " + n, RefusedTest::some, x -> flag(x.end(n)), 0);
        }
        for (int what : new int[] {-1, 2, LEAST, GREATEST}) {
            none("fault " + what, x -> x.fault(what));
        }
    }

    private static void sendings() {
        int[][] wrong = {{-1, 0, NONE, NONE, NONE}, {8, 0, NONE, NONE, NONE},
            {0, NONE, NONE, NONE, NONE}, {0, NONE, 0, 1, 2}, {0, 1, NONE, NONE, NONE},
            {3, 0, NONE, NONE, NONE}, {0, 3, NONE, NONE, NONE}, {0, -2, NONE, NONE, NONE},
            {0, 0, 2, NONE, NONE}, {0, 0, 3, NONE, NONE}, {0, 0, 1, 0, NONE}, {0, 0, 1, -2, NONE},
            {0, 0, 1, 2, 1}, {0, 0, 1, 2, 3}, {0, 0, 1, 2, LEAST}, {0, GREATEST, NONE, NONE, NONE},
            {LEAST, 0, NONE, NONE, NONE}, {GREATEST, 0, NONE, NONE, NONE}};
        for (int[] w : wrong) {
            none("send " + java.util.Arrays.toString(w), x -> x.send(w[0], w[1], w[2], w[3], w[4]));
        }
    }

    private static void asked() {
        for (int line : new int[] {-1, 3, 12, LEAST, GREATEST}) {
            none("of line " + line, x -> x.of(line, 0));
            none("losses of line " + line, x -> x.of(line, 10));
        }
        for (int what : new int[] {-1, 7, 8, 9, 20, LEAST, LEAST + 10, GREATEST}) {
            none("of " + what, x -> x.of(0, what));
        }
        for (int i : new int[] {-1, 50, 200, LEAST, GREATEST}) {
            none("book " + i, x -> x.book(i, 0));
        }
        for (int what : new int[] {-1, 4, LEAST, GREATEST}) {
            none("book's " + what, x -> x.book(0, what));
        }
        for (int what : new int[] {-1, 7, 8, 9, 14, LEAST, LEAST + 10, GREATEST}) {
            none("tells " + what, x -> x.tells(what));
        }
    }

    private static void thoughts() {
        for (int line : new int[] {-1, 3, 12, LEAST, GREATEST}) {
            none("comes by " + line, x -> x.comes(line, 0, NONE));
            none("meant by " + line, x -> x.meant(line, 0, 1, 0));
            none("twin by " + line, x -> x.twin(line, 0, 0));
            none("code by " + line, x -> x.code(line, 1, 0));
        }
        for (int frost : new int[] {-1, 2, LEAST, GREATEST}) {
            none("comes in " + frost, x -> x.comes(0, frost, NONE));
            none("meant in " + frost, x -> x.meant(0, frost, 1, 0));
            none("twin in " + frost, x -> x.twin(0, frost, 0));
        }
        for (int v : new int[] {-1, 5, LEAST, GREATEST}) {
            none("meant of " + v, x -> x.meant(0, 0, v, 0));
        }
        for (int k : new int[] {0, -1, 21, LEAST, GREATEST}) {
            none("code for " + k, x -> x.code(0, k, 0));
        }
        for (int station : new int[] {-1, 8, 0, LEAST, GREATEST}) {
            none("best to " + station, x -> x.best(0, station, 0));
            none("best from " + station, x -> x.best(station, 0, 0));
        }
        Call[] answered = {x -> x.comes(0, 1, 0), x -> x.meant(0, 1, 4, 0), x -> x.twin(0, 1, 0),
            x -> x.code(0, 20, 0), x -> x.best(0, 2, 0), x -> x.clerks(), x -> x.cure(0, 0),
            x -> x.creep(), x -> x.read(2, 0), x -> x.of(0, 0), x -> x.book(0, 0), x -> x.tells(0),
            x -> x.fault(0)};
        for (int i = 0; i < answered.length; i++) {
            leavesAll("thought " + i, RefusedTest::some, answered[i]);
        }
    }

    private static void looks() {
        for (int line : new int[] {-1, 3, 12, LEAST, GREATEST}) {
            none("look at " + line, x -> x.look(line));
            none("cure of " + line, x -> x.cure(line, 0));
        }
        for (int what : new int[] {-1, 3, LEAST, GREATEST}) {
            none("cure's " + what, x -> x.cure(0, what));
        }
        refused("no image", RefusedTest::some, x -> flag(x.image(false)), 0);
    }

    private static void fullOnes() {
        refused("the 13th line", RefusedTest::full, x -> x.line(0, 1, 0, 0, 0, 0), NONE);
        refused("the 13th digit", RefusedTest::full, x -> x.write(0, 0), NONE);
        refused("the 13th digit seen", RefusedTest::full, x -> x.write(1, 0), NONE);
        refused("the 21st look", RefusedTest::full, x -> x.look(0), NONE);
        refused("line 12 in a setting", RefusedTest::full, x -> flag(x.set(12, 0, 0)), 0);
        refused("line 12 in a sending", RefusedTest::full, x -> x.send(0, 12, NONE, NONE, NONE), NONE);
        refused("line 12 in a thought", RefusedTest::full, x -> x.comes(12, 0, NONE), NONE);
        refused("line 12 in a look", RefusedTest::full, x -> x.look(12), NONE);
        refused("nothing to undo", LostSevens::new, x -> flag(x.undo()), 0);
    }

    /** On an object without anything, whatever is asked is answered. */
    private static void neverThrown() {
        int[] odd = {LEAST, LEAST + 10, -2, -1, 0, 1, 9, 10, 12, 36, 200, 400, GREATEST};
        for (int a : odd) {
            for (int b : odd) {
                LostSevens x = new LostSevens();
                Due.due("no line", x.of(a, b) + x.comes(a, b, 0) + x.meant(a, b, 0, 0) + x.twin(a, b, 0)
                        + x.code(a, b, 0) + x.look(a) + x.cure(a, b) + x.book(a, b), 8 * NONE);
                Due.due("no way", x.best(a, b, 0) + x.send(a, b, a, b, a), 2 * NONE);
                Due.due("no set", x.set(a, b, 0), false);
            }
        }
    }
}
