/**
 * Promises 8 to 11, and what rules are: each sentence of the document that names a boundary has a
 * method here, with the sentence above it.
 */
public final class TextEdgesTest {
    private static final int NONE = LostSevens.NONE;
    private static final int BLANKS = 0x20202020;
    private static final String SIXTEEN = "1 to 2;".repeat(16);
    /** The greatest int, as rules can tell it. */
    private static final String GREATEST = "9999*9999*21+9999*4790+8416";

    public static void main(String[] args) {
        highestByteFirst();
        fourHundredBytes();
        notEvenPart();
        ends();
        tapeIsEmptyThen();
        emptyText();
        longestText();
        noSuchKind();
        staysAsItWas();
        faultOfTheLatest();
        rulesAreEmptyAtFirst();
        digits();
        numbers();
        keywords();
        blanks();
        otherBytes();
        comparisons();
        conditionsOfMany();
        mostWaiting();
        wrapAround();
        partsTowardsNought();
        partsByNought();
        theEnd();
        seventeenLines();
        nineOpen();
        closedAgain();
        firstByPlace();
        leastAtOnePlace();
        Due.close();
    }

    private static void reads(String text, int lines) {
        LostSevens x = new LostSevens();
        Due.due("'" + text + "'", Due.rules(x, 0, text), lines);
        Due.due("no fault of '" + text + "'", x.fault(0), 0);
        Due.due("no place of '" + text + "'", x.fault(1), NONE);
        Due.due("lines of '" + text + "'", x.tells(10), lines);
    }

    private static void faulty(String text, int fault, int place) {
        LostSevens x = new LostSevens();
        Due.due("'" + text + "'", Due.rules(x, 0, text), NONE);
        Due.due("fault of '" + text + "'", x.fault(0), fault);
        Due.due("place of '" + text + "'", x.fault(1), place);
        Due.due("no lines of '" + text + "'", x.tells(10), 0);
    }

    private static void so(String condition, boolean due) {
        LostSevens x = new LostSevens();
        x.line(0, 1, 0, 0, 0, 0);
        Due.due(condition, Due.rules(x, 0, "7 to 1 when " + condition + ";"), 1);
        Due.paper(x, "7");
        Due.due(condition, x.comes(0, 0, 0), due ? 1 : 7);
    }

    private static int feedBlanks(LostSevens x) {
        return x.feed(BLANKS, BLANKS, BLANKS, BLANKS, BLANKS);
    }

    /** "Twenty bytes come behind the TAPE, of each number the highest first: how many it has." */
    private static void highestByteFirst() {
        LostSevens x = new LostSevens();
        x.line(0, 1, 0, 0, 0, 0);
        Due.due("twenty", x.feed(0x3720746F, 0x20313233, 0x343B3720, 0x746F2036, 0x36363B20), 20);
        Due.due("two lines", x.text(0), 2);
        Due.paper(x, "7");
        Due.due("the first of them", Due.comes(x, 0, 0), "1234");
        x.feed(0xFF202020, BLANKS, BLANKS, BLANKS, BLANKS);
        x.text(0);
        Due.due("a byte of 255 is the first", x.fault(1), 0);
        x.feed(BLANKS, BLANKS, BLANKS, BLANKS, 0x202020FF);
        x.text(0);
        Due.due("a byte of 255 is the last", x.fault(1), 19);
        x.feed(0x20202080, BLANKS, BLANKS, BLANKS, BLANKS);
        x.text(0);
        Due.due("a byte of 128 is the fourth", x.fault(1), 3);
    }

    /** "NONE, and nothing comes, if there would be more than 400." */
    private static void fourHundredBytes() {
        LostSevens x = new LostSevens();
        for (int i = 1; i <= 20; i++) {
            Due.due("how many", feedBlanks(x), 20 * i);
        }
        Due.due("no more", x.feed(-1, -1, -1, -1, -1), NONE);
        Due.due("all 400 are there", x.end(401), false);
        Due.due("all 400 are there", x.end(400), true);
        Due.due("they are as they were", x.text(0), 0);
    }

    /** The same, if some of the twenty would have room. */
    private static void notEvenPart() {
        for (int room = 1; room < 20; room++) {
            LostSevens x = new LostSevens();
            for (int i = 0; i < 20; i++) {
                feedBlanks(x);
            }
            x.end(400 - room);
            Due.due("room for " + room, x.feed(-1, -1, -1, -1, -1), NONE);
            Due.due("none came", x.end(400 - room + 1), false);
            Due.due("those before stay", x.end(400 - room), true);
            Due.due("all blanks", x.text(0), 0);
        }
        LostSevens x = new LostSevens();
        for (int i = 0; i < 20; i++) {
            feedBlanks(x);
        }
        x.end(380);
        Due.due("room for twenty", feedBlanks(x), 400);
    }

    /** "The TAPE has its first n bytes alone .. false, changing nothing, if it has not so many". */
    private static void ends() {
        LostSevens x = new LostSevens();
        Due.due("nothing of nothing", x.end(0), true);
        Due.due("one of nothing", x.end(1), false);
        x.feed(0x37746F36, 0x3B374040, BLANKS, BLANKS, BLANKS);
        Due.due("all", x.end(20), true);
        Due.due("one more", x.end(21), false);
        Due.due("below 0", x.end(-1), false);
        Due.due("the least", x.end(Integer.MIN_VALUE), false);
        Due.due("the greatest", x.end(Integer.MAX_VALUE), false);
        Due.due("all are there yet", x.end(20), true);
        Due.due("the first five", x.end(5), true);
        Due.due("no six", x.end(6), false);
        Due.due("a line", x.text(0), 1);
        x.feed(0x37746F36, 0x3B374040, BLANKS, BLANKS, BLANKS);
        x.end(5);
        Due.due("more come behind the five", feedBlanks(x), 25);
        Due.due("what was cut off is gone", x.text(0), 1);
        x.feed(1, 2, 3, 4, 5);
        Due.due("none", x.end(0), true);
        Due.due("an empty text", x.text(0), 0);
    }

    /** "The TAPE, empty then, is the RULES of a KIND". */
    private static void tapeIsEmptyThen() {
        int[] kinds = {0, 3, 4, -1};
        for (int kind : kinds) {
            LostSevens x = new LostSevens();
            feedBlanks(x);
            x.text(kind);
            Due.due("empty behind a text for " + kind, x.end(1), false);
            x.feed(1, 2, 3, 4, 5);
            x.text(kind);
            Due.due("empty behind a fault for " + kind, x.end(1), false);
            Due.due("room for twenty", feedBlanks(x), 20);
        }
    }

    /** "RULES of a KIND are a TEXT": one without lines is one, too. */
    private static void emptyText() {
        reads("", 0);
        reads(" ", 0);
        reads("\n", 0);
        LostSevens x = new LostSevens();
        Due.rules(x, 0, "7 to 6;");
        Due.due("an empty tape", x.text(0), 0);
        Due.due("no lines are left", x.tells(10), 0);
        for (int i = 0; i < 20; i++) {
            feedBlanks(x);
        }
        Due.due("400 blanks", x.text(0), 0);
    }

    /** The same with all of the 400 bytes. */
    private static void longestText() {
        String many = "7 to 1 when 1=1" + " or 1=1".repeat(54);
        String blanks = " ".repeat(399 - many.length());
        reads(many + blanks + ";", 1);
        faulty(many + blanks + " ", 1, 400);
        faulty(many + blanks + "?", 1, 399);
        String sum = "7 to 1 when 1=" + "1+".repeat(192);
        reads(sum + "1;", 1);
        faulty(sum + "1+", 1, 400);
        String left = "7 to 1 when " + "1*".repeat(192) + "1=";
        reads(left + "1;", 1);
        String letters = "7 to " + "a".repeat(395);
        faulty(letters, 1, 5);
        faulty("1".repeat(400), 1, 0);
        faulty("(".repeat(400), 1, 0);
    }

    /** "NONE: no such one (fault() tells 0)". */
    private static void noSuchKind() {
        for (int kind : new int[] {-1, 4, Integer.MIN_VALUE, Integer.MAX_VALUE}) {
            LostSevens x = new LostSevens();
            Due.rules(x, 0, "7 to");
            Due.due("a fault before", x.fault(0), 1);
            Due.due("no kind " + kind, Due.rules(x, kind, "77 to"), NONE);
            Due.due("fault 0", x.fault(0), 0);
            Due.due("no place", x.fault(1), NONE);
            for (int i = 10; i < 14; i++) {
                Due.due("no rules", x.tells(i), 0);
            }
        }
    }

    /** "or a FAULT (it stays as it was)". */
    private static void staysAsItWas() {
        LostSevens x = new LostSevens();
        x.line(0, 1, 2, 0, 0, 0);
        Due.rules(x, 2, "7 to 66 when place=0;7 to none;");
        Due.paper(x, "77");
        String[] wrong = {"7 to 5;7 to", "77", "7 to 5 when 1/0=1;", SIXTEEN + "7 to 5;", "7 to 5"};
        for (String text : wrong) {
            Due.due("a fault", Due.rules(x, 2, text), NONE);
            Due.due("two lines", x.tells(12), 2);
            Due.due("as they were", Due.comes(x, 0, 0), "66");
        }
    }

    /** "Of the latest text(): what 0 the FAULT (0 without one), 1 its place (NONE)." */
    private static void faultOfTheLatest() {
        LostSevens x = new LostSevens();
        Due.due("without any text", x.fault(0), 0);
        Due.due("no place", x.fault(1), NONE);
        Due.rules(x, 0, "77");
        Due.due("2", x.fault(0), 2);
        Due.due("at 0", x.fault(1), 0);
        Due.feed(x, "7 to");
        Due.due("not what is on the tape", x.fault(0), 2);
        x.text(1);
        Due.due("1", x.fault(0), 1);
        Due.due("at 4", x.fault(1), 4);
        Due.rules(x, 2, "7 to 6;");
        Due.due("none now", x.fault(0), 0);
        Due.due("nor a place", x.fault(1), NONE);
        Due.due("what 2", x.fault(2), NONE);
        Due.due("what -1", x.fault(-1), NONE);
    }

    /** "RULES of a KIND are a TEXT (empty at first)". */
    private static void rulesAreEmptyAtFirst() {
        LostSevens x = new LostSevens();
        Due.paper(x, "0123456789");
        for (int kind = 0; kind < 4; kind++) {
            x.line(0, 1, kind, 0, 0, 0);
            Due.due("no lines", x.tells(10 + kind), 0);
            Due.due("all stays", Due.comes(x, kind, 1), "0123456789");
        }
    }

    /** "(DIGIT: a NUMBER of one digit)"; FAULT 2 "(at the NUMBER) a DIGIT of more than one". */
    private static void digits() {
        for (int digit = 0; digit < 10; digit++) {
            reads(digit + " to 6;", 1);
        }
        faulty("10 to 6;", 2, 0);
        faulty("00 to 6;", 2, 0);
        faulty("9999 to 6;", 2, 0);
        faulty("  77 to 6;", 2, 2);
        faulty("7 to 6;\n77 to 6;", 2, 8);
        faulty("10000 to 6;", 1, 0);
    }

    /** "digits as many as stand together NUMBERS of 1 to 4 digits or none". */
    private static void numbers() {
        reads("7 to 0;", 1);
        reads("7 to 9999;", 1);
        reads("7 to 0000;", 1);
        faulty("7 to 00000;", 1, 5);
        faulty("7 to 6 when 10000=1;", 1, 12);
        reads("7 to 6 when 9999=9999;", 1);
        faulty("7 to 6 when 1=1/10000;", 1, 16);
        faulty("7 to 6 6;", 1, 7);
        so("9999=9998+1", true);
        so("0099=99", true);
        so("0000=0", true);
    }

    /** "letters as many as stand together are KEYWORDS (those told here) or none". */
    private static void keywords() {
        reads("7to6when1=1or2=2and not3=3;", 1);
        String[] known = {"day", "frost", "place", "length", "left", "right"};
        for (String word : known) {
            reads("7 to 6 when " + word + "=1;", 1);
            faulty("7 to 6 when " + word + "s=1;", 1, 12);
            faulty("7 to 6 when " + word.substring(1) + "=1;", 1, 12);
            faulty("7 to 6 when " + word.toUpperCase() + "=1;", 1, 12);
            faulty("7 to 6 when 1=1" + word + ";", 1, 15);
        }
        for (char c : "azAZ".toCharArray()) {
            faulty("7 to" + c + " 6;", 1, 2);
            faulty("7 " + c + "to 6;", 1, 2);
        }
        for (char c : "@[`{".toCharArray()) {
            faulty("7 to" + c + " 6;", 1, 4);
        }
        faulty("7 no 6;", 1, 2);
        faulty("7 to 6 when 1=1 andnot 1=1;", 1, 16);
        faulty("7 to nonewhen 1=1;", 1, 5);
        faulty("7 t", 1, 2);
    }

    /** "Blanks (32, 10) between." */
    private static void blanks() {
        reads(" 7 to 6 ; ", 1);
        reads("\n7\nto\n6\n;\n", 1);
        reads("7to6;", 1);
        for (char c : new char[] {9, 11, 12, 13, 31, 33, 0, 160}) {
            faulty("7" + c + "to 6;", 1, 1);
        }
        faulty("7 t o 6;", 1, 2);
        faulty("7 to 6 when 1 1=1;", 1, 14);
    }

    /** "TOKENS: .. ; + - * / ( ) < = > .": no byte else is one. */
    private static void otherBytes() {
        String signs = ";+-*/()<=> \n";
        for (char c = 0; c < 256; c++) {
            boolean letter = c < 128 && Character.isLetter(c);
            boolean numeral = c < 128 && Character.isDigit(c);
            if (signs.indexOf(c) < 0 && !letter && !numeral) {
                faulty("7 to 6 when 1=1 " + c, 1, 16);
                faulty("7 to" + c + "6;", 1, 4);
            }
        }
        faulty("7 to 6 when 1<=1;", 1, 14);
        faulty("7 to 6 when 1<>1;", 1, 14);
        faulty("7 to 6 when 1==1;", 1, 14);
    }

    /** "C = E (< | = | >) E": a number compared with the one below it, itself, the one above. */
    private static void comparisons() {
        for (int i = -1; i <= 1; i++) {
            so(5 + i + "<5", i < 0);
            so(5 + i + "=5", i == 0);
            so(5 + i + ">5", i > 0);
            so("0-" + (5 - i) + "<0-5", i < 0);
            so("0-" + (5 - i) + ">0-5", i > 0);
        }
    }

    /** "B = A {or A}.  A = C {and C}": and binds before or, and not before both. */
    private static void conditionsOfMany() {
        so("1=1 and 1=2", false);
        so("1=2 or 1=1", true);
        so("1=2 or 1=2", false);
        so("1=1 or 1=1 and 1=2", true);
        so("1=2 and 1=1 or 1=1", true);
        so("(1=1 or 1=1) and 1=2", false);
        so("not 1=2 and 1=2", false);
        so("not 1=1 or 1=1", true);
    }

    /** As much as can be open, begun and not yet worked out at once. */
    private static void mostWaiting() {
        String begun = "1=2 or 1=1 and (".repeat(8);
        so(begun + "1=2 or 1=1 and 7=1+2*3" + ")".repeat(8), true);
        so(begun + "1=2 or 1=1 and 7=1+2*4" + ")".repeat(8), false);
        so(begun + "1=2 or 1=1 and 1+2*3=7" + ")".repeat(8), true);
        String denied = "1=2 or 1=1 and not (".repeat(4);
        so(denied + "1=2 or 1=1 and 7=1+2*3" + ")".repeat(4), true);
        so(denied + "1=2 or 1=1 and 7=1+2*4" + ")".repeat(4), false);
        faulty("7 to 6 when " + begun + "1=2 or 1=1 and (", 3, 12 + 8 * 16 + 15);
    }

    /** "Ints, which wrap". */
    private static void wrapAround() {
        so(GREATEST + ">0", true);
        so(GREATEST + "+1<0", true);
        so(GREATEST + "+1+" + GREATEST + "=0-1", true);
        so("0-9999*9999*21-9999*4790-8416-1<0", true);
        so("0-9999*9999*21-9999*4790-8416-2>0", true);
        so("0-9999*9999*21-9999*4790-8416-2=" + GREATEST, true);
        so("4096*4096*128<0", true);
        so("4096*4096*256=0", true);
        so("4096*4096*255<0", true);
        so("4096*4096*127>0", true);
    }

    /** "/ goes towards 0". */
    private static void partsTowardsNought() {
        so("7/2=3", true);
        so("7/9=0", true);
        so("9999/9999=1", true);
        so("9998/9999=0", true);
        so("0/1=0", true);
        so("0-7/2=0-3", true);
        // 4096 * 4096 * 255 wraps to -16777216, the third of which lies between two ints.
        so("4096*4096*255/3=0-5592*1000-405", true);
        so("4096*4096*255/9999=0-1677", true);
        so("4096*4096*255/4096/4097=0", true);
        so("4096*4096*128/1=4096*4096*128", true);
    }

    /** FAULT 2 "(at the NUMBER) .. a part by 0". */
    private static void partsByNought() {
        faulty("7 to 6 when 1/0=1;", 2, 14);
        faulty("7 to 6 when 1/00=1;", 2, 14);
        faulty("7 to 6 when 1/0000=1;", 2, 14);
        faulty("7 to 6 when 1=0/0;", 2, 16);
        faulty("7 to 6 when 1/1/ 0=1;", 2, 17);
        reads("7 to 6 when 1/0001=1;", 1);
        reads("7 to 6 when 0/10=0*0;", 1);
    }

    /** FAULT 1 "what can't stand there (the end: the text's length)". */
    private static void theEnd() {
        String whole = "7 to 6 when not ( 1 + 2 * 3 / 4 < 5 or day = left and 1 > 2 ) ;";
        reads(whole, 1);
        for (int n = 1; n < whole.length(); n++) {
            boolean inKeyword = Character.isLetter(whole.charAt(n - 1)) && Character.isLetter(whole.charAt(n));
            if (!inKeyword) {
                faulty(whole.substring(0, n), 1, n);
            }
        }
        faulty("7 \n \n", 1, 5);
        faulty("7 to 6;7", 1, 8);
    }

    /** FAULT 3 "(at its KEYWORD to) the 17th line". */
    private static void seventeenLines() {
        reads(SIXTEEN, 16);
        reads(SIXTEEN + "  \n", 16);
        faulty(SIXTEEN + "1 to 2;", 3, 114);
        faulty(SIXTEEN + "1to", 3, 113);
        faulty(SIXTEEN + "1", 1, 113);
        faulty(SIXTEEN + "1;", 1, 113);
        faulty(SIXTEEN + "12 to", 2, 112);
        faulty(SIXTEEN + ";", 1, 112);
        faulty("7 to 1;".repeat(17) + "7 to 1;", 3, 114);
    }

    /** FAULT 3 "(at it) the 9th ( or not that is open". */
    private static void nineOpen() {
        reads("7 to 6 when ((((((((1=1))))))));", 1);
        faulty("7 to 6 when (((((((((1=1)))))))));", 3, 20);
        reads("7 to 6 when " + "not ".repeat(8) + "1=1;", 1);
        faulty("7 to 6 when " + "not ".repeat(9) + "1=1;", 3, 44);
        reads("7 to 6 when not(not(not(not(1=1))));", 1);
        faulty("7 to 6 when not(not(not(not(not 1=1))));", 3, 28);
        faulty("7 to 6 when not(not(not(not((1=1)))));", 3, 28);
        so("((((((((1=1))))))))", true);
        so("not ".repeat(8) + "1=1", true);
        so("not ".repeat(7) + "1=1", false);
        so("not(not(not(not(1=2))))", false);
    }

    /** The same: what is closed counts no more; a not is closed with what it denies. */
    private static void closedAgain() {
        reads("7 to 6 when " + "(1=1) or ".repeat(12) + "(1=1);", 1);
        reads("7 to 6 when " + "not 1=1 or ".repeat(12) + "not 1=1;", 1);
        reads("7 to 6 when " + "not 1=1 and ".repeat(12) + "not 1=1;", 1);
        reads("7 to 6 when " + "not (1=1) and ".repeat(12) + "not (1=1);", 1);
        reads("7 to 6 when (((((((not 1=1 and not 1=1 or (1=1))))))));", 1);
        faulty("7 to 6 when (((((((not 1=1 and not not 1=1)))))));", 3, 35);
        faulty("7 to 6 when ((((((((1=1)or(1=1)))))) and (((((not", 1, 49);
        faulty("7 to 6 when ((((((((1=1)or(1=1)))))) and ((((((not", 3, 47);
        reads("7 to 6 when ((((((((1=1))))))));8 to 6 when ((((((((1=1))))))));", 2);
    }

    /** "FAULTS, the first by its place". */
    private static void firstByPlace() {
        faulty("77 to 1/0;", 2, 0);
        faulty("7 to 6 when 1/0=10000;", 2, 14);
        faulty("7 to 6 when 10000=1/0;", 1, 12);
        faulty("7 to 6 when ((((((((( 1/0", 3, 20);
        faulty("7 to 6 when 1/0=1 or (((((((((1=1;", 2, 14);
        faulty("7 to 6 ? 77 to", 1, 7);
        faulty("7 to 6 when 1=1 ? (((((((((", 1, 16);
        faulty(SIXTEEN + "77 to 6;", 2, 112);
        faulty(SIXTEEN + "7 to 6 when 1/0", 3, 114);
    }

    /** "at one place the least": where a ( or a not can't stand, that it is the 9th is no fault. */
    private static void leastAtOnePlace() {
        faulty("7 to 6 when ((((((((1=(", 1, 22);
        faulty("7 to 6 when ((((((((1=1(", 1, 23);
        faulty("7 to 6 when ((((((((1=1)(", 1, 24);
        faulty("7 to 6 when ((((((((1=not 1", 1, 22);
        faulty("7 to 6 when ((((((((1 not 1", 1, 22);
        faulty("7 to 6 when ((((((((1=1 not", 1, 24);
        faulty("7 to 6 when 1/00000=1;", 1, 14);
        faulty("7 77", 1, 2);
        faulty(SIXTEEN + "to", 1, 112);
        faulty(SIXTEEN + "to 7 to 7;", 1, 112);
    }
}
