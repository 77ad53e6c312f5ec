/** Promises 2 (state) and 13 (day). */
public final class DayTest {
    public static void main(String[] args) {
        states();
        frosts();
        draws();
        Due.close();
    }

    private static void states() {
        LostSevens x = new LostSevens();
        Due.due("at first", x.state(-5), 0);
        Due.due("as told", x.state(Integer.MIN_VALUE), -5);
        Due.due("told", x.tells(4), Integer.MIN_VALUE);
        Due.due("as told again", x.state(0), Integer.MIN_VALUE);
    }

    /** From 0 the first draw of 1000 is 1013904223 / 256 % 1000 = 563. */
    private static void frosts() {
        for (int odds : new int[] {0, 1, 563, 564, 1000}) {
            LostSevens x = new LostSevens();
            x.line(0, 1, 0, 0, 0, odds);
            x.line(0, 1, 0, 0, 0, 0);
            x.set(1, 4, 1);
            Due.due("frost by " + odds, x.day(), odds > 563 ? 1 : 0);
            Due.due("frost of 0", x.of(0, 6), odds > 563 ? 1 : 0);
            Due.due("without odds none is left", x.of(1, 6), 0);
            Due.due("state", x.tells(4), odds == 0 ? 0 : 1013904223);
            Due.due("day", x.tells(1), 1);
        }
    }

    /** Worked out with longs, line by line, those without odds left out. */
    private static void draws() {
        LostSevens x = new LostSevens();
        int[] odds = {500, 0, 1000, 1, 300, 0, 700};
        for (int v : odds) {
            x.line(3, 4, 0, 0, 0, v);
        }
        x.state(-123456789);
        long state = (1L << 32) - 123456789;
        for (int day = 1; day <= 40; day++) {
            int frozen = 0;
            boolean[] frost = new boolean[odds.length];
            for (int i = 0; i < odds.length; i++) {
                if (odds[i] > 0) {
                    state = (state * 1664525 + 1013904223) % (1L << 32);
                    frost[i] = state / 256 % 1000 < odds[i];
                    frozen += frost[i] ? 1 : 0;
                }
            }
            Due.due("frosts on day " + day, x.day(), frozen);
            Due.due("the day", x.tells(1), day);
            Due.due("its state", x.tells(4), (int) state);
            for (int i = 0; i < odds.length; i++) {
                Due.due("frost on " + i, x.of(i, 6), frost[i] ? 1 : 0);
            }
        }
    }
}
