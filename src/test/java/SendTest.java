/** Promises 12 (send), 15 (book) and 16 (creep). */
public final class SendTest {
    private static final int NONE = LostSevens.NONE;

    public static void main(String[] args) {
        ways();
        cantBe();
        wire();
        fullBook();
        values();
        Due.close();
    }

    private static void ways() {
        LostSevens x = new LostSevens();
        x.line(0, 1, 0, 0x80, 0, 0);
        x.line(2, 1, 1, 1, 0x100, 0);
        x.line(2, 3, 0, 0, 0, 0);
        Due.rules(x, 0, "5 to 70;");
        Due.paper(x, "4578");
        Due.due("by one", x.send(0, 0, NONE, NONE, NONE), 3);
        Due.due("by one", Due.came(x), "408");
        Due.due("by one backwards", x.send(1, 0, NONE, 9, 9), 3);
        Due.due("by two", x.send(0, 0, 1, NONE, NONE), 2);
        Due.due("by two", Due.came(x), "48");
        x.set(1, 4, 1);
        Due.due("by two in frost", x.send(0, 0, 1, NONE, NONE), 1);
        Due.due("by two in frost", Due.came(x), "4");
        Due.due("there and back", x.send(1, 1, 2, 2, 1), 3);
        Due.due("there and back", Due.came(x), "477");
        Due.due("sent", x.tells(3), 5);
        String[] book = {"0 7 0 1", "0 7 0 3", "0 7 0 1", "0 7 0 3", "0 7 0 1", "0 7 0 3",
            "1 0 0 1", "0 7 0 1", "0 7 0 3", "1 0 0 1", "1 8 0 2", "1 8 0 3", "1 0 0 2"};
        Due.due("book", x.tells(2), book.length);
        for (int i = 0; i < book.length; i++) {
            Due.due("line " + i, x.book(i, 0) + " " + x.book(i, 1) + " " + x.book(i, 2) + " "
                    + x.book(i, 3), book[i]);
        }
        Due.due("behind it", x.book(book.length, 0), NONE);
        Due.due("below it", x.book(-1, 0), NONE);
        Due.due("what 4", x.book(0, 4), NONE);
        Due.due("what -1", x.book(0, -1), NONE);
        x.day();
        x.send(0, 0, NONE, NONE, NONE);
        Due.due("the day", x.book(book.length, 2), 1);
    }

    private static void cantBe() {
        LostSevens x = new LostSevens();
        x.line(0, 1, 0, 0, 0, 0);
        x.line(1, 2, 0, 0, 0, 0);
        Due.paper(x, "1");
        int[][] wrong = {{-1, 0, NONE, NONE, NONE}, {8, 0, NONE, NONE, NONE},
            {0, NONE, 0, 0, 0}, {2, 0, NONE, NONE, NONE}, {0, 0, 0, 1, NONE}, {0, 2, NONE, NONE, NONE},
            {0, -2, NONE, NONE, NONE}, {0, 0, 1, 0, NONE}, {0, 0, 0, 0, 5}, {0, 0, 1, 1, 2},
            {0, 0, 1, -2, NONE}};
        for (int[] w : wrong) {
            Due.due("can't be", x.send(w[0], w[1], w[2], w[3], w[4]), NONE);
        }
        Due.due("nothing was sent", x.tells(3), 0);
        Due.due("nothing came", x.read(2, NONE), 0);
        Due.due("nothing to undo", x.tells(6), 0);
        Due.due("those behind not asked", x.send(0, 0, NONE, 7, -9), 1);
        Due.due("an empty paper", x.blank(0), 1);
        Due.due("goes, too", x.send(0, 0, 1, 1, 0), 0);
        Due.due("both sent", x.tells(3), 2);
    }

    /** The first 36 digits are sent; losses count among them alone. */
    private static void wire() {
        LostSevens x = new LostSevens();
        x.line(0, 1, 0, 2, 0, 0);
        x.line(1, 2, 1, 0, 0, 0);
        Due.rules(x, 0, "7 to 1234;");
        Due.rules(x, 1, "2 to 9999 when length=27 and place<26;4 to 0 when place=26;");
        Due.paper(x, "777777777777");
        Due.due("of 48 go 36, of which nine are lost", x.send(0, 0, NONE, NONE, NONE), 27);
        Due.due("nine", x.of(0, 11), 9);
        Due.due("the last place", x.book(8, 3), 32);
        Due.due("no tenth", x.book(9, 3), NONE);
        Due.due("on the next", x.send(0, 0, 1, NONE, NONE), 36);
        Due.due("on the next", Due.came(x), "999934".repeat(6));
    }

    private static void fullBook() {
        LostSevens x = new LostSevens();
        x.line(0, 1, 0, 0x3FF, 0, 0);
        Due.rules(x, 0, "3 to 333;");
        Due.paper(x, "333333333333");
        for (int i = 1; i <= 7; i++) {
            x.send(0, 0, NONE, NONE, NONE);
            Due.due("lines", x.tells(2), Math.min(200, 36 * i));
            Due.due("lost", x.of(0, 13), 36 * i);
        }
        Due.due("the last line", x.book(199, 3), 199 - 180);
        Due.due("no more", x.book(200, 3), NONE);
        Due.due("undo 7", x.undo(), true);
        Due.due("undo 6", x.undo(), true);
        Due.due("lines again", x.tells(2), 180);
        Due.due("not there now", x.book(180, 0), NONE);
    }

    private static void values() {
        LostSevens x = new LostSevens();
        x.line(0, 1, 0, 0x80, 0, 0);
        Due.paper(x, "123456789012");
        x.send(0, 0, NONE, NONE, NONE);
        Due.due("nine digits at most", x.creep(), 345689012L - 456789012L);
        Due.paper(x, "007");
        x.send(0, 0, 0, NONE, NONE);
        Due.due("added", x.creep(), 345689012L - 456789012L - 7);
        Due.rules(x, 0, "0 to 9999;");
        for (int i = 0; i < 3; i++) {
            x.send(0, 0, NONE, NONE, NONE);
        }
        Due.due("beyond an int", x.creep(), 345689012L - 456789012L - 7 + 3 * (99999999L - 7));
        Due.paper(x, "000");
        for (int i = 0; i < 3; i++) {
            x.send(0, 0, NONE, NONE, NONE);
        }
        Due.due("far beyond", x.creep(),
                345689012L - 456789012L - 7 + 3 * (99999999L - 7) + 3 * 999999999L);
    }
}
