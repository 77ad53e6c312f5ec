/** Promises 5 (write), 6 (blank) and 7 (read). */
public final class PaperTest {
    private static final int NONE = LostSevens.NONE;

    public static void main(String[] args) {
        for (int what = 0; what < 2; what++) {
            writeAndBlank(what);
        }
        wrong();
        came();
        Due.close();
    }

    private static void writeAndBlank(int what) {
        LostSevens x = new LostSevens();
        for (int i = 0; i < 12; i++) {
            Due.due("write", x.write(what, (i * 7 + 3) % 10), i + 1);
        }
        Due.due("the thirteenth", x.write(what, 1), NONE);
        for (int i = 0; i < 12; i++) {
            Due.due("read " + i, x.read(what, i), (i * 7 + 3) % 10);
        }
        Due.due("how many", x.read(what, NONE), 12);
        Due.due("behind", x.read(what, 12), NONE);
        Due.due("below", x.read(what, -2), NONE);
        Due.due("the other is empty", x.read(1 - what, NONE), 0);
        Due.due("blank the other", x.blank(1 - what), 0);
        Due.due("blank", x.blank(what), 12);
        Due.due("empty", x.read(what, NONE), 0);
        Due.due("no digit", x.read(what, 0), NONE);
        Due.due("blank again", x.blank(what), 0);
        Due.due("write anew", x.write(what, 9), 1);
        Due.due("read anew", x.read(what, 0), 9);
    }

    private static void wrong() {
        LostSevens x = new LostSevens();
        Due.due("digit 10", x.write(0, 10), NONE);
        Due.due("digit -1", x.write(1, -1), NONE);
        Due.due("what 2", x.write(2, 0), NONE);
        Due.due("what -1", x.write(-1, 0), NONE);
        Due.due("nothing came", x.read(0, NONE) + x.read(1, NONE) + x.read(2, NONE), 0);
        Due.due("blank 2", x.blank(2), NONE);
        Due.due("blank -1", x.blank(-1), NONE);
        Due.due("read 3", x.read(3, NONE), NONE);
        Due.due("read -1", x.read(-1, NONE), NONE);
    }

    private static void came() {
        LostSevens x = new LostSevens();
        x.line(0, 1, 0, 0, 0, 0);
        Due.rules(x, 0, "1 to 2345;");
        Due.paper(x, "111111111111");
        Due.due("36 come", x.send(0, 0, NONE, NONE, NONE), 36);
        Due.due("how many", x.read(2, NONE), 36);
        Due.due("the last", x.read(2, 35), 5);
        Due.due("behind", x.read(2, 36), NONE);
        x.blank(0);
        Due.due("the paper's blank leaves it", x.read(2, NONE), 36);
    }
}
