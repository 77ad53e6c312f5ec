/** Promises 23 (look) and 24 (cure). */
public final class LooksTest {
    private static final int NONE = LostSevens.NONE;

    public static void main(String[] args) {
        looks();
        cures();
        Due.close();
    }

    private static void looks() {
        LostSevens x = new LostSevens();
        Due.due("no line", x.look(0), NONE);
        x.line(0, 1, 0, 0, 0, 0);
        x.line(1, 2, 0, 0, 0, 0);
        Due.due("line -1", x.look(-1), NONE);
        Due.due("line 2", x.look(2), NONE);
        for (int i = 1; i <= 20; i++) {
            Due.due("look " + i, x.look(i % 2), i);
        }
        Due.due("the 21st", x.look(0), NONE);
        Due.due("twenty", x.tells(5), 20);
    }

    private static void cureIs(LostSevens x, int line, int count, int least, int greatest) {
        Due.due("how many", x.cure(line, 0), count);
        Due.due("the least", x.cure(line, 1), least);
        Due.due("the greatest", x.cure(line, 2), greatest);
    }

    private static void lookAt(LostSevens x, int line, String paper, String seen) {
        Due.paper(x, paper);
        Due.seen(x, seen);
        Due.due("a look", x.look(line) == NONE, false);
    }

    private static void cures() {
        LostSevens x = new LostSevens();
        Due.due("no line", x.cure(0, 0), NONE);
        for (int i = 0; i < 6; i++) {
            x.line(0, 1, 0, 0x3FF, 0, 0);
        }
        Due.rules(x, 0, "7 to 1;");
        cureIs(x, 0, 1024, 0, 1023);
        lookAt(x, 1, "77", "7");
        cureIs(x, 1, 0, NONE, NONE);
        lookAt(x, 0, "", "");
        cureIs(x, 0, 1024, 0, 1023);
        lookAt(x, 0, "717", "1");
        cureIs(x, 0, 256, 0x80, 1023 - 2);
        lookAt(x, 0, "0123", "12");
        cureIs(x, 0, 32, 0x89, 1023 - 6);
        lookAt(x, 0, "456789", "");
        cureIs(x, 0, 1, 0x3F9, 0x3F9);
        lookAt(x, 2, "12", "21");
        cureIs(x, 2, 0, NONE, NONE);
        lookAt(x, 3, "12", "123");
        cureIs(x, 3, 0, NONE, NONE);
        lookAt(x, 4, "12", "1");
        lookAt(x, 4, "12", "2");
        cureIs(x, 4, 0, NONE, NONE);
        lookAt(x, 5, "0123456789", "0123456789");
        cureIs(x, 5, 1, 0, 0);
        cureIs(x, 0, 1, 0x3F9, 0x3F9);
        Due.due("another what", x.cure(0, 3), NONE);
        Due.due("what below", x.cure(0, -1), NONE);
        Due.due("line 6", x.cure(6, 0), NONE);
        Due.due("line -1", x.cure(-1, 0), NONE);
    }
}
