/**
 * Promises 5 to 7, 12, 15 and 16, and how a line sends: each sentence of the document that names a
 * boundary has a method here, with the sentence above it.
 */
public final class MessageEdgesTest {
    private static final int NONE = LostSevens.NONE;

    public static void main(String[] args) {
        digits();
        twelveDigits();
        emptyOnes();
        cameIsEmptyAtFirst();
        readsOfCame();
        value();
        creep();
        noughtsAhead();
        firstRule();
        ends();
        thirtySix();
        restIsNotLost();
        oneToFourLines();
        toTheOtherEnd();
        behindNone();
        emptyPaper();
        fullBook();
        bookFullOnTheWay();
        placesInTheBook();
        frostOnTheWay();
        Due.close();
    }

    private static LostSevens withLine(int loses, String rules) {
        LostSevens x = new LostSevens();
        x.line(0, 1, 0, loses, 0, 0);
        Due.due("rules", Due.rules(x, 0, rules) == NONE, false);
        return x;
    }

    private static int send(LostSevens x) {
        return x.send(0, 0, NONE, NONE, NONE);
    }

    /** "A MESSAGE is a row of digits 0 .. 9." */
    private static void digits() {
        for (int what = 0; what < 2; what++) {
            LostSevens x = new LostSevens();
            Due.due("0", x.write(what, 0), 1);
            Due.due("9", x.write(what, 9), 2);
            Due.due("-1", x.write(what, -1), NONE);
            Due.due("10", x.write(what, 10), NONE);
            Due.due("as told", Due.message(x, what), "09");
        }
    }

    /** "A digit comes behind ..: how many it has; NONE if one can't be, or it has twelve." */
    private static void twelveDigits() {
        for (int what = 0; what < 2; what++) {
            LostSevens x = new LostSevens();
            for (int i = 0; i < 12; i++) {
                Due.due("how many", x.write(what, i % 10), i + 1);
            }
            Due.due("the 13th", x.write(what, 5), NONE);
            Due.due("as it was", Due.message(x, what), "012345678901");
            Due.due("the other has room", x.write(1 - what, 5), 1);
            Due.due("how many it had", x.blank(what), 12);
            Due.due("room again", x.write(what, 5), 1);
        }
    }

    /** "THE PAPER (what 0), SEEN (1) is empty: how many digits it had"; "(empty at first)". */
    private static void emptyOnes() {
        LostSevens x = new LostSevens();
        for (int what = 0; what < 2; what++) {
            Due.due("at first", x.blank(what), 0);
            Due.due("no digits", x.read(what, NONE), 0);
            Due.due("no digit 0", x.read(what, 0), NONE);
        }
        x.write(0, 1);
        x.write(1, 2);
        Due.due("the paper had one", x.blank(0), 1);
        Due.due("what was seen stays", x.read(1, 0), 2);
        Due.due("that had one, too", x.blank(1), 1);
        Due.due("no what 2", x.blank(2), NONE);
    }

    /** "CAME: what came by the latest sending (empty at first)." */
    private static void cameIsEmptyAtFirst() {
        LostSevens x = withLine(0x80, "");
        Due.due("at first", x.read(2, NONE), 0);
        Due.due("no digit", x.read(2, 0), NONE);
        Due.paper(x, "123");
        send(x);
        Due.due("the latest", Due.came(x), "123");
        Due.paper(x, "74");
        send(x);
        Due.due("a shorter one", Due.came(x), "4");
        Due.due("none of the one before", x.read(2, 1), NONE);
        Due.paper(x, "777");
        send(x);
        Due.due("all was lost", x.read(2, NONE), 0);
    }

    /** "Digit i .. (i NONE: how many digits). NONE if there is none such, or another what." */
    private static void readsOfCame() {
        LostSevens x = withLine(0, "");
        Due.paper(x, "908");
        send(x);
        for (int what = 0; what < 3; what += 2) {
            Due.due("how many", x.read(what, -1), 3);
            Due.due("below NONE", x.read(what, -2), NONE);
            Due.due("the first", x.read(what, 0), 9);
            Due.due("the last", x.read(what, 2), 8);
            Due.due("behind", x.read(what, 3), NONE);
        }
    }

    private static void creepOf(LostSevens x, String paper, long due) {
        Due.paper(x, paper);
        long before = x.creep();
        send(x);
        Due.due("creep of " + paper, x.creep() - before, due);
    }

    /** "VALUE of a MESSAGE: its last nine digits as a number (0 without any)." */
    private static void value() {
        LostSevens x = withLine(0x80, "");
        creepOf(x, "", 0);
        creepOf(x, "7", -7);
        creepOf(x, "777777777", -777777777);
        creepOf(x, "7000000000", 0);
        creepOf(x, "1000000007", 100000000 - 7);
        creepOf(x, "999999999999", 0);
        creepOf(x, "123456890777", 123456890 - 456890777);
        LostSevens longer = withLine(0, "1 to 9999;");
        creepOf(longer, "1", 9999 - 1);
        creepOf(longer, "111", 999999999 - 111);
        creepOf(longer, "111111111111", 999999999 - 111111111);
        creepOf(longer, "000000000", 0);
    }

    /** "CREEP: .. of all sendings added": beyond an int both upwards and downwards. */
    private static void creep() {
        LostSevens up = withLine(0, "0 to 999;");
        LostSevens down = withLine(0x200, "");
        Due.due("at first", up.creep(), 0);
        Due.paper(up, "000");
        Due.paper(down, "999999999");
        for (int i = 1; i <= 40; i++) {
            Due.due("nine digits", send(up), 9);
            Due.due("none", send(down), 0);
            Due.due("up", up.creep(), 999999999L * i);
            Due.due("down", down.creep(), -999999999L * i);
        }
    }

    private static void comes(String rules, String paper, String due) {
        LostSevens x = withLine(0, rules);
        Due.paper(x, paper);
        Due.due(rules + " of " + paper, Due.comes(x, 0, 0), due);
        Due.due("how many come", send(x), due.length());
        Due.due(rules + " sends " + paper, Due.came(x), due);
    }

    /** "becomes the digits of the NUMBER as they stand (with noughts ahead), or none". */
    private static void noughtsAhead() {
        comes("7 to 0;", "7", "0");
        comes("7 to 0000;", "7", "0000");
        comes("7 to 0010;", "77", "00100010");
        comes("7 to none;", "7", "");
        comes("7 to none;", "171", "11");
    }

    /** "by the first of its RULES for that digit whose B is so (or that has none) .. it stays". */
    private static void firstRule() {
        comes("7 to 1 when 1=2;7 to 2;7 to 3;", "7", "2");
        comes("7 to 1 when 1=1;7 to 2;", "7", "1");
        comes("8 to 1;7 to 2;", "7", "2");
        comes("7 to 1 when 1=2;", "7", "7");
        comes("8 to 1;", "7", "7");
        comes("0 to 9;9 to 0;", "09", "90");
        comes("1 to 2;2 to 3;", "1", "2");
        comes("1 to 5;".repeat(15) + "9 to 4;", "99", "44");
    }

    /** "left, right: the digit ahead of it, behind it in the MESSAGE as it was (10: none)". */
    private static void ends() {
        comes("7 to 1 when left=10 and right=10;", "7", "1");
        comes("7 to 1 when left=10;", "777", "177");
        comes("7 to 1 when right=10;", "777", "771");
        comes("7 to 1 when left=7;", "777", "711");
        comes("7 to 1 when left=0;0 to none;", "0707", "11");
        comes("7 to 1 when place=0;", "777", "177");
        comes("7 to 1 when place=length-1;", "777", "771");
        comes("7 to 1 when length=12;", "777777777777", "111111111111");
        comes("7 to 1 when place=11;", "777777777777", "777777777771");
    }

    /** "Of what comes of that the first 36 digits are sent (the rest is not)." */
    private static void thirtySix() {
        comes("7 to 123;", "777777777777", "123".repeat(12));
        comes("7 to 123;8 to 45;", "777777777778", "123".repeat(11) + "45");
        comes("7 to 123;8 to 4567;", "777777777778", "123".repeat(11) + "456");
        comes("7 to 123;8 to 4567;", "877777777777", "4567" + "123".repeat(10) + "12");
        comes("7 to 1234;", "777777777777", "1234".repeat(9));
        comes("7 to 1234;8 to none;", "777777777888", "1234".repeat(9));
        comes("7 to 1234;", "7777777771", "1234".repeat(9));
        LostSevens x = withLine(0, "7 to 7777;");
        x.line(1, 2, 1, 0, 0, 0);
        Due.rules(x, 1, "7 to 8 when place=35;7 to none when length=36 and right=7;");
        Due.paper(x, "777777777777");
        Due.due("36 come", send(x), 36);
        Due.due("the last of 36 is the next line's place 35", x.send(0, 0, 1, NONE, NONE), 1);
        Due.due("it is", Due.came(x), "8");
    }

    /** The same: what is not sent is not LOST. */
    private static void restIsNotLost() {
        LostSevens x = withLine(0x100, "7 to 1118;");
        Due.paper(x, "777777777777");
        Due.due("27 come", send(x), 27);
        Due.due("nine are lost", x.of(0, 18), 9);
        Due.due("nine in the book", x.tells(2), 9);
        Due.due("at 35 the last", x.book(8, 3), 35);
        Due.due("nine in thought", x.best(0, 1, 0), 9);
        Due.due("27 in thought", x.comes(0, 0, NONE), 27);
    }

    /** "by 1 to 4 LINES". */
    private static void oneToFourLines() {
        LostSevens x = new LostSevens();
        for (int i = 0; i < 5; i++) {
            x.line(i, i + 1, 0, 1 << i, 0, 0);
        }
        Due.paper(x, "01234");
        Due.due("by none", x.send(0, NONE, NONE, NONE, NONE), NONE);
        Due.due("not sent", x.tells(3), 0);
        Due.due("by one", x.send(0, 0, NONE, NONE, NONE), 4);
        Due.due("by two", x.send(0, 0, 1, NONE, NONE), 3);
        Due.due("by three", x.send(0, 0, 1, 2, NONE), 2);
        Due.due("by four", x.send(0, 0, 1, 2, 3), 1);
        Due.due("the last one's", Due.came(x), "4");
        Due.due("sent", x.tells(3), 4);
    }

    /** "each from where it is to its other end". */
    private static void toTheOtherEnd() {
        LostSevens x = new LostSevens();
        x.line(7, 0, 0, 0, 0, 0);
        x.line(0, 3, 0, 0, 0, 0);
        Due.paper(x, "1");
        Due.due("from 7", x.send(7, 0, 1, NONE, NONE), 1);
        Due.due("from 3", x.send(3, 1, 0, NONE, NONE), 1);
        Due.due("there and back", x.send(0, 0, 0, 0, 0), 1);
        Due.due("not from there", x.send(3, 0, NONE, NONE, NONE), NONE);
        Due.due("the second is elsewhere", x.send(0, 0, 1, NONE, NONE), NONE);
        Due.due("the third is elsewhere", x.send(7, 0, 1, 0, NONE), NONE);
        Due.due("the fourth is elsewhere", x.send(7, 0, 1, 1, 1), 1);
        Due.due("the fourth is there no more", x.send(7, 0, 0, 0, 2), NONE);
        Due.due("station -1", x.send(-1, 0, NONE, NONE, NONE), NONE);
        Due.due("station 8", x.send(8, 0, NONE, NONE, NONE), NONE);
        Due.due("a station without lines", x.send(5, 0, NONE, NONE, NONE), NONE);
        Due.due("sent", x.tells(3), 4);
    }

    /** "(NONE: no more; those behind not asked)". */
    private static void behindNone() {
        LostSevens x = withLine(0, "");
        Due.paper(x, "1");
        Due.due("lines that are not", x.send(0, 0, NONE, 99, -99), 1);
        Due.due("lines that are", x.send(0, 0, NONE, 0, 0), 1);
        Due.due("the third is none", x.send(0, 0, 0, NONE, 99), 1);
        Due.due("the second can't be", x.send(0, 0, -2, NONE, NONE), NONE);
        Due.due("the fourth can't be", x.send(0, 0, 0, 0, -2), NONE);
    }

    /** "how many digits CAME": of an empty paper none, yet it is sent. */
    private static void emptyPaper() {
        LostSevens x = withLine(0x3FF, "");
        Due.due("none", send(x), 0);
        Due.due("sent", x.tells(3), 1);
        Due.due("undone may it be", x.tells(6), 1);
        Due.due("nothing is lost", x.tells(2), 0);
        Due.due("no creep", x.creep(), 0);
    }

    /** "THE BOOK of what was LOST (200 lines; no more then)"; "(also beyond THE BOOK)". */
    private static void fullBook() {
        LostSevens x = withLine(0x80, "");
        Due.paper(x, "777777777777");
        for (int i = 1; i <= 16; i++) {
            send(x);
        }
        Due.due("192", x.tells(2), 192);
        Due.paper(x, "7777777");
        send(x);
        Due.due("199", x.tells(2), 199);
        Due.due("no line 199", x.book(199, 0), NONE);
        Due.paper(x, "17");
        send(x);
        Due.due("200", x.tells(2), 200);
        Due.due("line 199", x.book(199, 3), 1);
        Due.paper(x, "7");
        Due.due("goes on", send(x), 0);
        Due.due("still 200", x.tells(2), 200);
        Due.due("line 199 stays", x.book(199, 3), 1);
        Due.due("no line 200", x.book(200, 0), NONE);
        Due.due("counted beyond", x.of(0, 17), 201);
        Due.due("one undone", x.undo(), true);
        Due.due("not counted", x.of(0, 17), 200);
        Due.due("the book is full still", x.tells(2), 200);
        Due.due("two undone", x.undo(), true);
        Due.due("it has room", x.tells(2), 199);
        send(x);
        Due.due("full anew", x.book(199, 3), 0);
    }

    /** The same, full in the midst of a sending by several lines. */
    private static void bookFullOnTheWay() {
        LostSevens x = withLine(0x80, "");
        x.line(1, 2, 1, 0x100, 0, 0);
        Due.paper(x, "777777777777");
        for (int i = 0; i < 16; i++) {
            send(x);
        }
        Due.paper(x, "787878787878");
        Due.due("none comes", x.send(0, 0, 1, NONE, NONE), 0);
        Due.due("full", x.tells(2), 200);
        Due.due("of the first line six", x.book(197, 0), 0);
        Due.due("of the second two", x.book(198, 0), 1);
        Due.due("its second", x.book(199, 3), 1);
        Due.due("counted all six", x.of(1, 18), 6);
        Due.due("undone", x.undo(), true);
        Due.due("as it was", x.tells(2), 192);
        Due.due("none counted", x.of(1, 18), 0);
    }

    /** "LINE, digit, DAY, its place in what that LINE sent (0 first)". */
    private static void placesInTheBook() {
        LostSevens x = withLine(0x80, "1 to 0070;");
        Due.due("empty", x.book(0, 0), NONE);
        Due.paper(x, "71");
        x.day();
        send(x);
        int[][] due = {{0, 7, 1, 0}, {0, 7, 1, 3}};
        for (int i = 0; i < 2; i++) {
            for (int what = 0; what < 4; what++) {
                Due.due("line " + i + " what " + what, x.book(i, what), due[i][what]);
            }
        }
        Due.due("line -1", x.book(-1, 0), NONE);
        Due.due("line 2", x.book(2, 0), NONE);
        Due.due("what -1", x.book(0, -1), NONE);
        Due.due("what 4", x.book(0, 4), NONE);
    }

    /** "(with FROST those that it FREEZES, too)": as it is on each line today. */
    private static void frostOnTheWay() {
        LostSevens x = new LostSevens();
        x.line(0, 1, 0, 0x80, 0x100, 0);
        x.line(1, 2, 0, 0x40, 0x20, 0);
        Due.rules(x, 0, "9 to 98 when frost=1;");
        Due.paper(x, "56789");
        Due.due("none", x.send(0, 0, 1, NONE, NONE), 3);
        Due.due("none", Due.came(x), "589");
        x.set(1, 4, 1);
        Due.due("the second", x.send(0, 0, 1, NONE, NONE), 3);
        Due.due("the second", Due.came(x), "898");
        x.set(0, 4, 1);
        x.set(1, 4, 0);
        Due.due("the first", x.send(0, 0, 1, NONE, NONE), 2);
        Due.due("the first", Due.came(x), "59");
    }
}
