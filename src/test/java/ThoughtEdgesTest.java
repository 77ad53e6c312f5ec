/**
 * Promises 17 to 24: each sentence of the document that names a boundary has a method here, with
 * the sentence above it.
 */
public final class ThoughtEdgesTest {
    private static final int NONE = LostSevens.NONE;

    public static void main(String[] args) {
        frostAsTold();
        comesDigits();
        comesOfAnEmptyPaper();
        dayAsNow();
        meantOfUpToFour();
        meantNone();
        meantOfNothingSeen();
        meantOfTwelve();
        meantFirst();
        meantWhats();
        twinIsAnother();
        twinOfAnEmptyPaper();
        twinWithoutDigits();
        twinOfFourAtMost();
        twinNone();
        twinOfALongWire();
        codeForOneToTwenty();
        codeOfOneToThree();
        codeBelowK();
        codeBothAlike();
        codeToldApart();
        bestStations();
        bestNoWay();
        bestNoStationTwice();
        bestOfTwelveLines();
        bestFrostAsToday();
        bestFewest();
        bestWhats();
        clerksAsASet();
        clerksWithoutFrost();
        clerksOfNothing();
        twentyLooks();
        looksKeepWhatWas();
        cureWithoutLooks();
        cureOfOneSet();
        cureOfNone();
        cureOfOneLine();
        Due.close();
    }

    private static LostSevens withLine(int loses, int freezes, String rules) {
        LostSevens x = new LostSevens();
        x.line(0, 1, 0, loses, freezes, 0);
        Due.due("rules", Due.rules(x, 0, rules) == NONE, false);
        return x;
    }

    /** "for a LINE and FROST as told (0, 1)": not as it is today. */
    private static void frostAsTold() {
        LostSevens x = withLine(0, 0x80, "");
        Due.paper(x, "7");
        Due.seen(x, "");
        for (int today = 0; today < 2; today++) {
            x.set(0, 4, today);
            Due.due("comes without", x.comes(0, 0, NONE), 1);
            Due.due("comes with", x.comes(0, 1, NONE), 0);
            Due.due("meant without", x.meant(0, 0, 1, 0), 1);
            Due.due("meant with", x.meant(0, 1, 1, 0), 2);
            Due.due("no twin without", x.twin(0, 0, 0), NONE);
            Due.due("a twin with", x.twin(0, 1, 0), 0);
            for (int frost : new int[] {-1, 2}) {
                Due.due("comes in " + frost, x.comes(0, frost, NONE), NONE);
                Due.due("meant in " + frost, x.meant(0, frost, 1, 0), NONE);
                Due.due("twin in " + frost, x.twin(0, frost, 0), NONE);
            }
        }
    }

    /** "COMES: digit i (i NONE: how many digits). NONE if one can't be, or there is none such." */
    private static void comesDigits() {
        LostSevens x = withLine(0, 0, "7 to 123;");
        Due.paper(x, "777777777777");
        Due.due("how many", x.comes(0, 0, NONE), 36);
        Due.due("the first", x.comes(0, 0, 0), 1);
        Due.due("the last", x.comes(0, 0, 35), 3);
        Due.due("behind", x.comes(0, 0, 36), NONE);
        Due.due("below", x.comes(0, 0, -2), NONE);
        Due.due("the least", x.comes(0, 0, Integer.MIN_VALUE), NONE);
        Due.due("the greatest", x.comes(0, 0, Integer.MAX_VALUE), NONE);
    }

    /** "COMES: what would come of THE PAPER", which may be empty. */
    private static void comesOfAnEmptyPaper() {
        LostSevens x = withLine(0, 0, "");
        Due.due("none", x.comes(0, 0, NONE), 0);
        Due.due("no first", x.comes(0, 0, 0), NONE);
    }

    /** "DAY as now". */
    private static void dayAsNow() {
        LostSevens x = withLine(0, 0, "7 to 1 when day=1;");
        Due.paper(x, "7");
        Due.seen(x, "1");
        for (int day = 0; day < 3; day++) {
            Due.due("comes", x.comes(0, 0, 0), day == 1 ? 1 : 7);
            Due.due("meant", x.meant(0, 0, 1, 0), day == 1 ? 2 : 1);
            Due.due("twin", x.twin(0, 0, 0), day == 1 ? 1 : NONE);
            Due.due("code", x.code(0, 10, 0), day == 1 ? 2 : 1);
            Due.due("clerks", x.clerks(), day == 1 ? 1 : 0);
            x.day();
        }
    }

    /** "of all MESSAGES of 0 .. n digits (n 0 .. 4)". */
    private static void meantOfUpToFour() {
        LostSevens x = withLine(0x3FF, 0, "");
        int[] all = {1, 11, 111, 1111, 11111};
        for (int n = 0; n <= 4; n++) {
            Due.due("all of " + n, x.meant(0, 0, n, 0), all[n]);
        }
        Due.due("n -1", x.meant(0, 0, -1, 0), NONE);
        Due.due("n 5", x.meant(0, 0, 5, 0), NONE);
        LostSevens plain = withLine(0, 0, "");
        Due.seen(plain, "9999");
        Due.due("not of three", plain.meant(0, 0, 3, 0), 0);
        Due.due("the last of four", plain.meant(0, 0, 4, 0), 1);
        Due.seen(plain, "99999");
        Due.due("five are too many", plain.meant(0, 0, 4, 0), 0);
    }

    /** "how many"; "NONE if .. there is none (such)". */
    private static void meantNone() {
        LostSevens x = withLine(0x80, 0, "");
        Due.seen(x, "7");
        for (int n = 0; n <= 4; n++) {
            Due.due("how many", x.meant(0, 0, n, 0), 0);
            Due.due("no first", x.meant(0, 0, n, 1), NONE);
            Due.due("no digit of it", x.meant(0, 0, n, 10), NONE);
        }
    }

    /** "those of which just SEEN would come": nothing may be seen, too. */
    private static void meantOfNothingSeen() {
        LostSevens x = withLine(0x80, 0, "8 to none;");
        Due.due("the empty one alone", x.meant(0, 0, 0, 0), 1);
        Due.due("its digits", x.meant(0, 0, 0, 1), 0);
        Due.due("no digit", x.meant(0, 0, 0, 10), NONE);
        Due.due("and 7 and 8", x.meant(0, 0, 1, 0), 3);
        Due.due("the empty one is the first", x.meant(0, 0, 1, 1), 0);
    }

    /** The same with as much as can be seen. */
    private static void meantOfTwelve() {
        LostSevens x = withLine(0, 0, "7 to 1234;8 to 1234;");
        Due.seen(x, "123412341234");
        Due.due("of three", x.meant(0, 0, 3, 0), 8);
        Due.due("of four with 1234 as it is none less", x.meant(0, 0, 4, 0), 8);
        Due.due("first digits", x.meant(0, 0, 4, 1), 3);
        Due.due("first", x.meant(0, 0, 4, 10) * 100 + x.meant(0, 0, 4, 11) * 10 + x.meant(0, 0, 4, 12), 777);
        Due.seen(x, "12341234123");
        Due.due("one less", x.meant(0, 0, 4, 0), 0);
    }

    /** "the first (the shortest, then by its digits)". */
    private static void meantFirst() {
        LostSevens x = withLine(0, 0, "9 to 12;1 to 1;");
        Due.seen(x, "12");
        Due.due("two", x.meant(0, 0, 4, 0), 2);
        Due.due("9 is shorter than 12", x.meant(0, 0, 4, 10), 9);
        LostSevens alike = withLine(0, 0, "0 to 5 when place=1;9 to 5;");
        Due.seen(alike, "55");
        Due.due("50, 55, 59, 90, 95, 99", alike.meant(0, 0, 2, 0), 6);
        Due.due("5 first", alike.meant(0, 0, 2, 10), 5);
        Due.due("then 0", alike.meant(0, 0, 2, 11), 0);
        LostSevens lost = withLine(0x1, 0, "");
        Due.seen(lost, "0");
        Due.due("what is lost never comes", lost.meant(0, 0, 4, 0), 0);
    }

    /** "MEANT what 0 .., 1 .., 10 + i its i-th digit .. or another what". */
    private static void meantWhats() {
        LostSevens x = withLine(0, 0, "");
        Due.seen(x, "4321");
        for (int i = 0; i < 4; i++) {
            Due.due("digit " + i, x.meant(0, 0, 4, 10 + i), 4 - i);
        }
        for (int what : new int[] {-1, 2, 9, 14, Integer.MIN_VALUE, Integer.MAX_VALUE}) {
            Due.due("what " + what, x.meant(0, 0, 4, what), NONE);
        }
    }

    private static void twinIs(LostSevens x, int frost, String due) {
        Due.due("twin's length", x.twin(0, frost, 0), due.length());
        for (int i = 0; i < due.length(); i++) {
            Due.due("twin's digit " + i, x.twin(0, frost, 10 + i), due.charAt(i) - '0');
        }
        for (int what : new int[] {-1, 1, 2, 9, 10 + due.length(), Integer.MIN_VALUE, Integer.MAX_VALUE}) {
            Due.due("what " + what, x.twin(0, frost, what), NONE);
        }
    }

    /** "TWIN: the first MESSAGE .., another one than THE PAPER, of which the same would come". */
    private static void twinIsAnother() {
        LostSevens x = withLine(0, 0, "3 to 5;4 to 5;");
        Due.paper(x, "3");
        twinIs(x, 0, "4");
        Due.paper(x, "4");
        twinIs(x, 0, "3");
        Due.paper(x, "5");
        twinIs(x, 0, "3");
        LostSevens nought = withLine(0x1, 0, "");
        Due.paper(nought, "01");
        twinIs(nought, 0, "1");
        Due.paper(nought, "1");
        twinIs(nought, 0, "01");
    }

    /** The same of an empty paper. */
    private static void twinOfAnEmptyPaper() {
        LostSevens x = withLine(0, 0x2, "");
        Due.due("none", x.twin(0, 0, 0), NONE);
        twinIs(x, 1, "1");
        x.set(0, 0, 0x200);
        twinIs(x, 0, "9");
    }

    /** The same, where the twin is the empty message. */
    private static void twinWithoutDigits() {
        LostSevens x = withLine(0x80, 0, "");
        for (String paper : new String[] {"7", "7777", "777777777777"}) {
            Due.paper(x, paper);
            twinIs(x, 0, "");
        }
    }

    /** "(likewise, 4 digits at most)". */
    private static void twinOfFourAtMost() {
        LostSevens x = withLine(0, 0, "9 to 8;");
        Due.paper(x, "9999");
        twinIs(x, 0, "8888");
        Due.paper(x, "8888");
        twinIs(x, 0, "8889");
        Due.paper(x, "99999");
        Due.due("five", x.twin(0, 0, 0), NONE);
        LostSevens lost = withLine(0x80, 0, "");
        Due.paper(lost, "123");
        twinIs(lost, 0, "1237");
        Due.paper(lost, "1237");
        twinIs(lost, 0, "123");
        Due.paper(lost, "1234");
        Due.due("12347 has five", lost.twin(0, 0, 0), NONE);
        Due.paper(lost, "12347");
        twinIs(lost, 0, "1234");
        Due.paper(lost, "123477777777");
        twinIs(lost, 0, "1234");
    }

    /** "none": "NONE if there is none (such)". */
    private static void twinNone() {
        LostSevens x = withLine(0, 0, "");
        for (String paper : new String[] {"", "0", "9999", "123456789012"}) {
            Due.paper(x, paper);
            Due.due("no twin of " + paper, x.twin(0, 0, 0), NONE);
            Due.due("no digit of it", x.twin(0, 0, 10), NONE);
        }
    }

    /** What would come of the paper is cut at 36 digits, too; four digits never come to so many. */
    private static void twinOfALongWire() {
        LostSevens x = withLine(0x2, 0, "7 to 1111;8 to 5555;");
        Due.paper(x, "777777777558");
        twinIs(x, 0, "");
        Due.paper(x, "777777775588");
        twinIs(x, 0, "8");
    }

    private static void codeIs(LostSevens x, int k, int m, int... numbers) {
        Due.due("code for " + k, x.code(0, k, 0), m);
        for (int i = 0; i < numbers.length; i++) {
            Due.due("number " + i, x.code(0, k, 10 + i), numbers[i]);
        }
        for (int what : new int[] {-1, 1, 9, 10 + k, Integer.MIN_VALUE, Integer.MAX_VALUE}) {
            Due.due("what " + what, x.code(0, k, what), NONE);
        }
    }

    /** "A CODE for k (1 .. 20) things". */
    private static void codeForOneToTwenty() {
        LostSevens x = withLine(0, 0, "");
        codeIs(x, 1, 1, 0);
        codeIs(x, 20, 2, 0, 1, 2, 3, 4, 5, 6, 7, 8, 9, 10, 11, 12, 13, 14, 15, 16, 17, 18, 19);
        Due.due("for 0", x.code(0, 0, 0), NONE);
        Due.due("for 21", x.code(0, 21, 0), NONE);
        Due.due("for 21 the first", x.code(0, 21, 10), NONE);
    }

    /** "the least m (1 .. 3) for which .. k at least are taken"; "NONE if there is none". */
    private static void codeOfOneToThree() {
        LostSevens x = withLine(0, 0, "");
        codeIs(x, 10, 1, 0, 1, 2, 3, 4, 5, 6, 7, 8, 9);
        codeIs(x, 11, 2, 0, 1, 2, 3, 4, 5, 6, 7, 8, 9, 10);
        LostSevens two = withLine(0x3FC, 0, "");
        codeIs(two, 3, 1, 0, 1, 2);
        codeIs(two, 4, 2, 0, 1, 2, 10);
        codeIs(two, 7, 2, 0, 1, 2, 10, 11, 12, 22);
        codeIs(two, 8, 3, 0, 1, 2, 10, 11, 12, 22, 100);
        codeIs(two, 15, 3, 0, 1, 2, 10, 11, 12, 22, 100, 101, 102, 110, 111, 112, 122, 222);
        Due.due("sixteen would need four digits", two.code(0, 16, 0), NONE);
        Due.due("nor its first", two.code(0, 16, 10), NONE);
        LostSevens all = withLine(0x3FF, 0, "");
        codeIs(all, 1, 1, 0);
        Due.due("two can't be told", all.code(0, 2, 0), NONE);
    }

    /** "10 + i the i-th MESSAGE as a number (i below k)". */
    private static void codeBelowK() {
        LostSevens x = withLine(0, 0, "");
        for (int k = 1; k <= 20; k++) {
            Due.due("the last of " + k, x.code(0, k, 9 + k), k - 1);
            Due.due("behind it", x.code(0, k, 10 + k), NONE);
        }
    }

    /** "(Both of its own may be alike.)" */
    private static void codeBothAlike() {
        LostSevens x = withLine(0, 0x3FF, "");
        codeIs(x, 1, 1, 0);
        Due.due("in frost nothing comes", x.code(0, 2, 0), NONE);
        LostSevens alike = withLine(0, 0, "");
        codeIs(alike, 2, 1, 0, 1);
    }

    /** "neither what comes with FROST nor what comes without is the same as what could come". */
    private static void codeToldApart() {
        // With frost 2 comes as 0 without it: 2 is refused for what comes in frost alone.
        LostSevens cold = withLine(0, 0, "2 to 0 when frost=1;");
        codeIs(cold, 9, 1, 0, 1, 3, 4, 5, 6, 7, 8, 9);
        LostSevens mild = withLine(0, 0, "2 to 0 when frost=0;");
        codeIs(mild, 9, 1, 0, 1, 3, 4, 5, 6, 7, 8, 9);
        // 0 in frost comes as 5: then 5 is refused for what came of another in frost.
        LostSevens taken = withLine(0, 0, "0 to 5 when frost=1;");
        codeIs(taken, 9, 1, 0, 1, 2, 3, 4, 6, 7, 8, 9);
        LostSevens both = withLine(0, 0, "0 to 5 when frost=1;1 to 5 when frost=1;");
        codeIs(both, 8, 1, 0, 2, 3, 4, 6, 7, 8, 9);
        LostSevens first = withLine(0, 0, "0 to 5 when frost=0;");
        codeIs(first, 9, 1, 0, 1, 2, 3, 4, 6, 7, 8, 9);
        // Both as they may come are known of one that was taken: of 0 as it is without frost, too.
        LostSevens turned = withLine(0, 0, "0 to 1 when frost=1;1 to 0 when frost=1;");
        codeIs(turned, 9, 1, 0, 2, 3, 4, 5, 6, 7, 8, 9);
        LostSevens shorter = withLine(0, 0, "0 to none;");
        codeIs(shorter, 20, 2, 0, 1, 2, 3, 4, 5, 6, 7, 8, 9, 11, 12, 13, 14, 15, 16, 17, 18, 19, 21);
    }

    /** "from a STATION to another one". */
    private static void bestStations() {
        LostSevens x = new LostSevens();
        x.line(0, 7, 0, 0, 0, 0);
        Due.due("there", x.best(0, 7, 1), 1);
        Due.due("back", x.best(7, 0, 1), 1);
        Due.due("to itself", x.best(0, 0, 1), NONE);
        Due.due("to 8", x.best(0, 8, 1), NONE);
        Due.due("to -1", x.best(0, -1, 1), NONE);
        Due.due("from 8", x.best(8, 0, 1), NONE);
        Due.due("from -1", x.best(-1, 0, 1), NONE);
    }

    /** "NONE if there is no way". */
    private static void bestNoWay() {
        LostSevens x = new LostSevens();
        Due.due("without lines", x.best(0, 1, 0), NONE);
        x.line(0, 1, 0, 0, 0, 0);
        x.line(2, 3, 0, 0, 0, 0);
        for (int what : new int[] {0, 1, 10}) {
            Due.due("from 0 to 1 is one", x.best(0, 1, what) == NONE, false);
            Due.due("from 0 to 2 none", x.best(0, 2, what), NONE);
        }
        x.line(1, 2, 0, 0x3FF, 0, 0);
        Due.paper(x, "123");
        Due.due("all lost is a way, too", x.best(0, 3, 0), 3);
    }

    /** "that come to no STATION twice": no way round by which less would be lost. */
    private static void bestNoStationTwice() {
        LostSevens x = new LostSevens();
        x.line(0, 1, 0, 0x80, 0, 0);
        x.line(0, 2, 1, 0, 0, 0);
        Due.rules(x, 1, "7 to none;");
        Due.paper(x, "77");
        Due.due("not there and back first", x.best(0, 1, 0), 2);
        Due.due("by one line", x.best(0, 1, 1), 1);
        x.line(2, 1, 2, 0x80, 0, 0);
        Due.due("round is a way now", x.best(0, 1, 0), 0);
        LostSevens z = new LostSevens();
        z.line(0, 2, 0, 0, 0, 0);
        z.line(2, 3, 1, 0, 0, 0);
        z.line(2, 1, 0, 0x80, 0, 0);
        Due.rules(z, 1, "7 to none;");
        Due.paper(z, "77");
        Due.due("nor there and back on the way", z.best(0, 1, 0), 2);
        LostSevens y = new LostSevens();
        for (int i = 0; i < 7; i++) {
            y.line(i, i + 1, 0, 0, 0, 0);
        }
        Due.due("seven lines come to all stations", y.best(0, 7, 1), 7);
        Due.due("its last", y.best(0, 7, 16), 6);
        Due.due("behind it", y.best(0, 7, 17), NONE);
    }

    /** The same with twelve lines. */
    private static void bestOfTwelveLines() {
        LostSevens x = new LostSevens();
        for (int i = 0; i < 11; i++) {
            x.line(i % 7, (i + 1) % 7, 0, 0x80, 0, 0);
        }
        x.line(0, 7, 0, 0, 0, 0);
        Due.paper(x, "7");
        Due.due("the last line", x.best(0, 7, 10), 11);
        Due.due("to it", x.best(6, 7, 10), 6);
        Due.due("loses one", x.best(6, 7, 0), 1);
    }

    /** "(FROST as today)". */
    private static void bestFrostAsToday() {
        LostSevens x = new LostSevens();
        x.line(0, 1, 0, 0, 0x80, 1000);
        x.line(0, 1, 0, 0x100, 0, 0);
        Due.paper(x, "778");
        Due.due("without frost", x.best(0, 1, 10), 0);
        x.day();
        Due.due("with frost", x.best(0, 1, 10), 1);
        Due.due("loses", x.best(0, 1, 0), 1);
    }

    /** "the fewest digits ..; of several that with the fewest LINES; of several the first". */
    private static void bestFewest() {
        LostSevens x = new LostSevens();
        x.line(1, 2, 0, 0, 0, 0);
        x.line(0, 1, 0, 0, 0, 0);
        x.line(0, 1, 0, 0, 0, 0);
        x.line(0, 3, 0, 0, 0, 0);
        x.line(3, 2, 0, 0, 0, 0);
        x.line(0, 2, 0, 0x2, 0, 0);
        Due.paper(x, "1");
        Due.due("loses none", x.best(0, 2, 0), 0);
        Due.due("two lines", x.best(0, 2, 1), 2);
        Due.due("the first way", x.best(0, 2, 10), 1);
        Due.due("its second line", x.best(0, 2, 11), 0);
        Due.due("from there the first way begins with 0", x.best(2, 0, 10), 0);
        Due.due("then 1", x.best(2, 0, 11), 1);
        Due.paper(x, "2");
        Due.due("the fewest lines", x.best(0, 2, 10), 5);
    }

    /** "BEST .. what 0 .., 1 .., 10 + i the i-th LINE .. or another what". */
    private static void bestWhats() {
        LostSevens x = new LostSevens();
        x.line(0, 1, 0, 0, 0, 0);
        for (int what : new int[] {-1, 2, 9, 11, Integer.MIN_VALUE, Integer.MAX_VALUE}) {
            Due.due("what " + what, x.best(0, 1, what), NONE);
        }
    }

    /** "CLERKS: KINDS by whose RULES .. just SEEN comes, as a set": none and all of them. */
    private static void clerksAsASet() {
        LostSevens x = new LostSevens();
        Due.paper(x, "7");
        Due.due("none", x.clerks(), 0);
        Due.seen(x, "7");
        Due.due("all", x.clerks(), 15);
        for (int kind = 0; kind < 4; kind++) {
            Due.rules(x, kind, "7 to 6;");
            Due.due("without " + kind, x.clerks(), 15 - (2 << kind) + 1);
        }
        Due.seen(x, "6");
        Due.due("all anew", x.clerks(), 15);
    }

    /** "on a LINE that loses nothing, without FROST": whatever the lines are. */
    private static void clerksWithoutFrost() {
        LostSevens x = withLine(0x3FF, 0x3FF, "7 to 6 when frost=1;");
        Due.rules(x, 1, "7 to 6 when frost=0;");
        x.set(0, 4, 1);
        Due.paper(x, "7");
        Due.seen(x, "7");
        Due.due("as it was", x.clerks(), 13);
        Due.seen(x, "6");
        Due.due("by 1", x.clerks(), 2);
    }

    /** The same with nothing written, nothing seen, or nothing come. */
    private static void clerksOfNothing() {
        LostSevens x = new LostSevens();
        Due.due("nothing at all", x.clerks(), 15);
        Due.seen(x, "1");
        Due.due("of nothing nothing comes", x.clerks(), 0);
        Due.seen(x, "");
        Due.paper(x, "777777777777");
        Due.rules(x, 3, "7 to none;");
        Due.due("nothing comes by 3", x.clerks(), 8);
        Due.seen(x, "777777777777");
        Due.due("twelve by the others", x.clerks(), 7);
        Due.rules(x, 2, "7 to 77;");
        Due.due("more than twelve by 2", x.clerks(), 3);
    }

    /** "LOOKS (20 at most)"; "how many there are then (of all LINES); NONE if .. twenty". */
    private static void twentyLooks() {
        LostSevens x = new LostSevens();
        Due.due("at no line", x.look(0), NONE);
        Due.due("none", x.tells(5), 0);
        for (int i = 0; i < 12; i++) {
            x.line(0, 1, 0, 0, 0, 0);
        }
        for (int i = 1; i <= 20; i++) {
            Due.due("one that can't be is not counted", x.look(12), NONE);
            Due.due("of all lines", x.look(i % 12), i);
        }
        Due.paper(x, "7");
        Due.due("the 21st", x.look(0), NONE);
        Due.due("twenty", x.tells(5), 20);
        Due.due("the 21st is no look", x.cure(0, 0), 1024);
    }

    /** "THE PAPER was sent, SEEN came": as they were when it was looked. */
    private static void looksKeepWhatWas() {
        LostSevens x = new LostSevens();
        x.line(0, 1, 0, 0, 0, 0);
        Due.paper(x, "17");
        Due.seen(x, "1");
        x.look(0);
        Due.paper(x, "");
        Due.seen(x, "99");
        Due.due("least", x.cure(0, 1), 0x80);
        Due.due("greatest", x.cure(0, 2), 1023 - 2);
        Due.rules(x, 0, "7 to 1;");
        x.set(0, 0, 1023);
        Due.due("whatever the line is told", x.cure(0, 0), 256);
        Due.due("sent is nothing", x.tells(3), 0);
    }

    private static void cureIs(LostSevens x, int line, int count, int least, int greatest) {
        Due.due("how many", x.cure(line, 0), count);
        Due.due("the least", x.cure(line, 1), least);
        Due.due("the greatest", x.cure(line, 2), greatest);
        Due.due("what -1", x.cure(line, -1), NONE);
        Due.due("what 3", x.cure(line, 3), NONE);
    }

    private static void look(LostSevens x, String paper, String seen) {
        Due.paper(x, paper);
        Due.seen(x, seen);
        Due.due("a look", x.look(0) == NONE, false);
    }

    /** "CURE: which sets of digits it could lose": without looks all. */
    private static void cureWithoutLooks() {
        LostSevens x = withLine(0x80, 0, "");
        cureIs(x, 0, 1024, 0, 1023);
        look(x, "", "");
        cureIs(x, 0, 1024, 0, 1023);
        Due.due("line 1", x.cure(1, 0), NONE);
        Due.due("line -1", x.cure(-1, 0), NONE);
    }

    /** The same, where one set is left: none, all, or some digits. */
    private static void cureOfOneSet() {
        LostSevens none = withLine(0, 0, "");
        look(none, "0123456789", "0123456789");
        cureIs(none, 0, 1, 0, 0);
        LostSevens all = withLine(0, 0, "");
        look(all, "0123456789", "");
        cureIs(all, 0, 1, 1023, 1023);
        LostSevens some = withLine(0, 0, "");
        look(some, "0123456789", "12345678");
        cureIs(some, 0, 1, 0x201, 0x201);
        LostSevens two = withLine(0, 0, "");
        look(two, "112345678", "112345678");
        cureIs(two, 0, 4, 0, 0x201);
    }

    /** "the least, 2 the greatest (NONE)": no set is so. */
    private static void cureOfNone() {
        String[][] looks = {{"", "1"}, {"1", "2"}, {"11", "1"}, {"1", "11"}, {"12", "21"},
            {"123", "13333"}, {"777777777777", "77777777777"}, {"121", "11121"}};
        for (String[] each : looks) {
            LostSevens x = withLine(0, 0, "");
            look(x, each[0], each[1]);
            cureIs(x, 0, 0, NONE, NONE);
            look(x, "1", "1");
            cureIs(x, 0, 0, NONE, NONE);
        }
        LostSevens x = withLine(0, 0, "");
        look(x, "1", "1");
        cureIs(x, 0, 512, 0, 1021);
        look(x, "1", "");
        cureIs(x, 0, 0, NONE, NONE);
    }

    /** "so that all LOOKS at it are so": those at other lines don't count. */
    private static void cureOfOneLine() {
        LostSevens x = new LostSevens();
        for (int i = 0; i < 12; i++) {
            x.line(0, 1, 0, 0, 0, 0);
        }
        Due.paper(x, "19");
        Due.seen(x, "9");
        x.look(11);
        Due.seen(x, "1");
        x.look(0);
        cureIs(x, 11, 256, 0x2, 1023 - 0x200);
        cureIs(x, 0, 256, 0x200, 1023 - 0x2);
        cureIs(x, 5, 1024, 0, 1023);
    }
}
