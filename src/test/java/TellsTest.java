/** Promise 27 (tells). */
public final class TellsTest {
    private static final int NONE = LostSevens.NONE;

    public static void main(String[] args) {
        LostSevens x = new LostSevens();
        x.line(0, 1, 0, 0x82, 0, 0);
        x.line(0, 1, 0, 0, 0, 0);
        x.line(0, 1, 0, 0, 0, 0);
        for (int i = 0; i < 4; i++) {
            x.day();
        }
        Due.paper(x, "7711789");
        x.send(0, 0, NONE, NONE, NONE);
        x.send(0, 1, NONE, NONE, NONE);
        x.state(-77);
        x.look(0);
        Due.rules(x, 1, "7 to 6;");
        Due.rules(x, 3, "7 to 6;8 to 6;9 to none;");
        int[] due = {3, 4, 5, 2, -77, 1, 2, NONE, NONE, NONE, 0, 1, 0, 3, NONE};
        for (int what = 0; what < due.length; what++) {
            Due.due("tells " + what, x.tells(what), due[what]);
        }
        Due.due("below", x.tells(-1), NONE);
        Due.due("the least", x.tells(Integer.MIN_VALUE), NONE);
        Due.due("the greatest", x.tells(Integer.MAX_VALUE), NONE);
        Due.close();
    }
}
