/** Promise 17 (comes), and with it how rules are worked out. */
public final class ComesTest {
    private static final int NONE = LostSevens.NONE;

    public static void main(String[] args) {
        rules();
        numbers();
        claims();
        asking();
        Due.close();
    }

    private static void gives(String rules, String paper, String due) {
        LostSevens x = new LostSevens();
        x.line(0, 1, 2, 0, 0, 0);
        x.day();
        x.day();
        Due.due("rules", Due.rules(x, 2, rules) == NONE, false);
        Due.paper(x, paper);
        Due.due(rules + " of " + paper, Due.comes(x, 0, 0), due);
        Due.due("nothing was sent", x.tells(3), 0);
    }

    /** Whether a condition holds for the 7 in 4715, on day 2 and without frost. */
    private static void so(String condition, boolean due) {
        gives("7 to none when " + condition + ";", "4715", due ? "415" : "4715");
    }

    private static void rules() {
        gives("", "0123456789", "0123456789");
        gives("7 to 0070;", "177", "100700070");
        gives("7 to none;", "7177", "1");
        gives("7 to 1;7 to 2;", "77", "11");
        gives("7 to 1 when place=1;7 to 2;", "777", "212");
        gives("7 to 1 when place=9;7 to 2 when place=8;", "77", "77");
        gives("7 to 8;8 to 7;", "7887", "8778");
        gives("7 to 1 when left=10;7 to 2 when right=10;7 to 3;", "7777", "1332");
        gives("7 to 1 when left=7;1 to 5 when right=7;", "7717", "7157");
        gives("7 to 12 when length=3;", "777", "121212");
        gives("7 to 12 when length=3;", "7777", "7777");
        gives("0 to 9 when left=right;", "0", "9");
        gives("7 to 9876;", "777777777777", "9876".repeat(9));
        gives("7 to 98;6 to none;", "676767676767", "989898989898");
    }

    private static void numbers() {
        so("day=2", true);
        so("frost=0", true);
        so("place=1", true);
        so("length=4", true);
        so("left=4", true);
        so("right=1", true);
        so("1+2*3=7", true);
        so("9-3-2=4", true);
        so("9-3+2=8", true);
        so("7/2*2=6", true);
        so("8/2/2=2", true);
        so("5/1=5", true);
        so("2*7/4=3", true);
        so("1-8/3=0-1", true);
        so("0-7<0-6", true);
        so("0*5-7=0-7", true);
        so("day-9*1<0", true);
        so("left+right*place=5", true);
        so("0010=10", true);
        so("9999*9999*9999<0", (int) (9999L * 9999 * 9999) < 0);
        so("9999*9999*22+9999*9999<0", true);
        so("day*4-9*day+3=0-7", true);
        // The product wraps to -2095407274; its tenth towards 0 ends with 7, not with 8.
        so("9999*9999*22/10+9999*9999*2+9999*958=0-1683", true);
    }

    private static void claims() {
        so("1<2", true);
        so("2<1", false);
        so("1<1", false);
        so("2>1", true);
        so("1>1", false);
        so("1=2", false);
        so("2>1 and 1=1", true);
        so("1<2 and 1=1", true);
        so("not 2>1", false);
        so("not 1<2", false);
        so("not 1=1", false);
        so("not 1=2", true);
        so("not not 1=2", false);
        so("not 1=1 or 1=1", true);
        so("not (1=1 or 1=1)", false);
        so("not 1=2 and 1=2", false);
        so("not (1=2 and 1=2)", true);
        so("1=1 or 1=2 and 1=2", true);
        so("(1=1 or 1=2) and 1=2", false);
        so("1=2 and 1=2 or 1=1", true);
        so("1=2 and (1=2 or 1=1)", false);
        so("1=2 or 1=2 or 1=1", true);
        so("1=1 and 1=1 and 1=2", false);
        so("not(not(not(1=2)))", true);
        so("(1=2 or (1=1 and not (2=3 or 1=2)))and 1=1", true);
    }

    private static void asking() {
        LostSevens x = new LostSevens();
        Due.due("no line", x.comes(0, 0, NONE), NONE);
        x.line(0, 1, 0, 0x80, 0x6, 0);
        Due.rules(x, 0, "3 to 71 when frost=1;3 to 27;9 to 8 when day=0;");
        Due.paper(x, "1239");
        Due.due("without frost", Due.comes(x, 0, 0), "1228");
        Due.due("with frost", Due.comes(x, 0, 1), "8");
        Due.due("how many", x.comes(0, 0, NONE), 4);
        Due.due("the last", x.comes(0, 0, 3), 8);
        Due.due("behind", x.comes(0, 0, 4), NONE);
        Due.due("below", x.comes(0, 0, -2), NONE);
        Due.due("frost 2", x.comes(0, 2, NONE), NONE);
        Due.due("frost -1", x.comes(0, -1, NONE), NONE);
        Due.due("line 1", x.comes(1, 0, NONE), NONE);
        Due.due("line -1", x.comes(-1, 0, NONE), NONE);
        x.set(0, 4, 1);
        Due.due("not today's frost", Due.comes(x, 0, 0), "1228");
        x.day();
        Due.due("today's day", Due.comes(x, 0, 0), "1229");
        Due.due("nothing is lost", x.tells(2), 0);
        Due.due("nothing came", x.read(2, NONE), 0);
    }
}
