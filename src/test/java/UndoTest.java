/** Promise 25 (undo). */
public final class UndoTest {
    private static final int NONE = LostSevens.NONE;

    public static void main(String[] args) {
        goesBack();
        eightAreKept();
        whatForgets();
        whatDoesNot();
        Due.close();
    }

    private static LostSevens withLine() {
        LostSevens x = new LostSevens();
        x.line(0, 1, 0, 0x80, 0, 0);
        return x;
    }

    private static void sendPaper(LostSevens x, String paper) {
        Due.paper(x, paper);
        Due.due("sent", x.send(0, 0, NONE, NONE, NONE) == NONE, false);
    }

    private static void goesBack() {
        LostSevens x = withLine();
        Due.due("nothing yet", x.undo(), false);
        sendPaper(x, "17");
        sendPaper(x, "2772");
        Due.due("two", x.tells(6), 2);
        Due.due("undo", x.undo(), true);
        Due.due("came", Due.came(x), "1");
        Due.due("book", x.tells(2), 1);
        Due.due("sent", x.tells(3), 1);
        Due.due("creep", x.creep(), 1 - 17);
        Due.due("lost", x.of(0, 17), 1);
        Due.due("the paper stays", Due.message(x, 0), "2772");
        Due.due("one", x.tells(6), 1);
        sendPaper(x, "877");
        Due.due("came anew", Due.came(x), "8");
        Due.due("the book's line is new", x.book(1, 3), 1);
        Due.due("undo that", x.undo(), true);
        Due.due("undo the first", x.undo(), true);
        Due.due("nothing came", x.read(2, NONE), 0);
        Due.due("nothing lost", x.of(0, 17) + x.tells(2) + x.tells(3), 0);
        Due.due("no creep", x.creep(), 0);
        Due.due("no more", x.undo(), false);
        Due.due("a sending that can't be", x.send(5, 0, NONE, NONE, NONE), NONE);
        Due.due("is not kept", x.undo(), false);
    }

    private static void eightAreKept() {
        LostSevens x = withLine();
        for (int i = 1; i <= 11; i++) {
            sendPaper(x, "7" + named(i));
            Due.due("kept", x.tells(6), Math.min(8, i));
        }
        for (int i = 10; i >= 3; i--) {
            Due.due("undo", x.undo(), true);
            Due.due("came", Due.came(x), named(i));
            Due.due("sent", x.tells(3), i);
            Due.due("book", x.tells(2), i);
            Due.due("left", x.tells(6), i - 3);
        }
        Due.due("the ninth", x.undo(), false);
        Due.due("stays", Due.came(x), "3");
    }

    /** Without a 7, which would be lost. */
    private static String named(int i) {
        return Integer.toString(i, 7);
    }

    private static void forgets(String what, LostSevens x, boolean does) {
        Due.due(what, x.tells(6), does ? 0 : 1);
        Due.due(what + " then undo", x.undo(), !does);
        Due.due(what + " then sent", x.tells(3), does ? 1 : 0);
    }

    private static LostSevens afterSending() {
        LostSevens x = withLine();
        sendPaper(x, "17");
        return x;
    }

    private static void whatForgets() {
        LostSevens x = afterSending();
        x.day();
        forgets("day", x, true);
        x = afterSending();
        x.line(3, 4, 0, 0, 0, 0);
        forgets("line", x, true);
        for (int what = 0; what < 5; what++) {
            x = afterSending();
            Due.due("set", x.set(0, what, what == 0 ? 0x80 : 0), true);
            forgets("set " + what, x, true);
        }
        x = withLine();
        x.image(true);
        sendPaper(x, "17");
        x.image(false);
        Due.due("going back to an image", x.tells(6), 0);
        Due.due("then undo", x.undo(), false);
    }

    private static void whatDoesNot() {
        LostSevens x = afterSending();
        Due.rules(x, 0, "1 to 2;");
        forgets("a text", x, false);
        x = afterSending();
        Due.paper(x, "123");
        Due.seen(x, "123");
        forgets("paper and seen", x, false);
        x = afterSending();
        x.look(0);
        forgets("a look", x, false);
        x = afterSending();
        x.state(17);
        forgets("state", x, false);
        x = afterSending();
        x.line(3, 3, 0, 0, 0, 0);
        x.set(0, 5, 0);
        x.set(0, 0, 1024);
        forgets("what can't be", x, false);
        x = afterSending();
        x.image(true);
        forgets("taking an image", x, false);
        x = afterSending();
        x.image(false);
        forgets("no image", x, false);
        x = afterSending();
        x.comes(0, 0, 0);
        x.meant(0, 0, 2, 0);
        x.twin(0, 0, 0);
        x.code(0, 3, 0);
        x.best(0, 1, 0);
        x.clerks();
        x.cure(0, 0);
        forgets("thoughts", x, false);
    }
}
