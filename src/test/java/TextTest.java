/** Promises 8 (feed), 9 (end), 10 (text) and 11 (fault). */
public final class TextTest {
    private static final int NONE = LostSevens.NONE;
    private static final String LONG_LINES = "1 to 2;".repeat(16);

    public static void main(String[] args) {
        tape();
        texts();
        cantStand();
        tokens();
        wrongNumbers();
        tooMany();
        kinds();
        manyTexts();
        Due.close();
    }

    private static void tape() {
        LostSevens x = new LostSevens();
        Due.due("end of nothing", x.end(0), true);
        Due.due("end beyond", x.end(1), false);
        for (int i = 1; i <= 19; i++) {
            Due.due("feed", x.feed(0x20202020, 0x20202020, 0x20202020, 0x20202020, 0x20202020), 20 * i);
        }
        Due.due("end 381", x.end(381), false);
        Due.due("end 380", x.end(380), true);
        Due.due("end -1", x.end(-1), false);
        Due.due("the last", x.feed(0, 0, 0, 0, 0), 400);
        Due.due("no more", x.feed(0, 0, 0, 0, 0), NONE);
        Due.due("end 381 now", x.end(381), true);
        Due.due("not even part", x.feed(0, 0, 0, 0, 0), NONE);
        Due.due("end 380 again", x.end(380), true);
        Due.due("twenty more", x.feed(0x31746F32, 0x3B202020, 0x20202020, 0x20202020, 0x20202020), 400);
        Due.due("read whole", x.text(0), 1);
        Due.due("empty then", x.feed(1, 2, 3, 4, 5), 20);
        Due.due("a wrong text", x.text(0), NONE);
        Due.due("empty, too", x.feed(1, 2, 3, 4, 5), 20);
        Due.due("a wrong kind", x.text(4), NONE);
        Due.due("empty once more", x.end(1), false);
        x.feed(0xC3746F32, 0, 0, 0, 0);
        x.text(0);
        Due.due("a byte above 127 can't stand", x.fault(1), 0);
    }

    private static void fine(String text, int lines) {
        LostSevens x = new LostSevens();
        Due.due(text, Due.rules(x, 1, text), lines);
        Due.due("fault of " + text, x.fault(0), 0);
        Due.due("place of " + text, x.fault(1), NONE);
        Due.due("told of " + text, x.tells(11), lines);
    }

    private static void faulty(String text, int fault, int place) {
        LostSevens x = new LostSevens();
        Due.rules(x, 2, "1 to 2;3 to 4;");
        Due.due(text, Due.rules(x, 2, text), NONE);
        Due.due("fault of '" + text + "'", x.fault(0), fault);
        Due.due("place of '" + text + "'", x.fault(1), place);
        Due.due("the old rules stay", x.tells(12), 2);
        Due.due("another what", x.fault(2), NONE);
        Due.due("what below", x.fault(-1), NONE);
    }

    private static void texts() {
        fine("", 0);
        fine(" \n ", 0);
        fine("7 to none;", 1);
        fine("7to0066;8to9when1=1;", 2);
        fine("7 to 6 when day<1 or frost=0 and place>length;", 1);
        fine("7 to 6 when not(not(left=1)or(right>2));", 1);
        fine("7 to 6 when 1+2-3*4/5*day/9999<0;", 1);
        fine("\n7\nto\n6\nwhen\n1\n=\n1\n;\n", 1);
        fine(LONG_LINES, 16);
        fine("7 to 1 when not not not not not not not not 1=1;", 1);
        fine("7 to 1 when ((((((((1=1))))))))and((((((((1=1))))))));", 1);
        fine("7 to 1 when (not(not(not(not 1=1)and not 1=1)))or not 1=2;", 1);
    }

    private static void cantStand() {
        faulty("7", 1, 1);
        faulty("7   ", 1, 4);
        faulty("to 7;", 1, 0);
        faulty("7 7", 1, 2);
        faulty("7 to", 1, 4);
        faulty("7 to ;", 1, 5);
        faulty("7 to 6", 1, 6);
        faulty("7 to none when", 1, 14);
        faulty("7 to 6 none", 1, 7);
        faulty("7 to 6 when ;", 1, 12);
        faulty("7 to 6 when 1;", 1, 13);
        faulty("7 to 6 when 1=;", 1, 14);
        faulty("7 to 6 when 1=1=1;", 1, 15);
        faulty("7 to 6 when 1 not 2;", 1, 14);
        faulty("7 to 6 when 1=1 not 2=2;", 1, 16);
        faulty("7 to 6 when 1=1);", 1, 15);
        faulty("7 to 6 when (1=1;", 1, 16);
        faulty("7 to 6 when (1);", 1, 14);
        faulty("7 to 6 when (1=1)+1=2;", 1, 17);
        faulty("7 to 6 when (1=1)=1;", 1, 17);
        faulty("7 to 6 when (1=1)(2=2);", 1, 17);
        faulty("7 to 6 when 1=(1);", 1, 14);
        faulty("7 to 6 when 1+(1)=2;", 1, 14);
        faulty("7 to 6 when 1*=1;", 1, 14);
        faulty("7 to 6 when -1=1;", 1, 12);
        faulty("7 to 6 when 1/day=1;", 1, 14);
        faulty("7 to 6 when 1/;", 1, 14);
        faulty("7 to 6 when not;", 1, 15);
        faulty("7 to 6 when 1=1 and;", 1, 19);
        faulty("7 to 6 when 1=1 or or;", 1, 19);
        faulty("7 to 6 when 1=1 when 1=1;", 1, 16);
        faulty("7 to 6 when 1=1 to;", 1, 16);
        faulty("7 to 6 when none=1;", 1, 12);
        faulty("7 to 6 when 1=1", 1, 15);
        faulty("7 to 6 when 1=1\n", 1, 16);
        faulty("7 to 6 when 1 + day", 1, 19);
        faulty("7 to 6;;", 1, 7);
    }

    private static void tokens() {
        faulty("7 too 6;", 1, 2);
        faulty("7 tO 6;", 1, 2);
        faulty("7 go 6;", 1, 2);
        faulty("7 to 6 when may=1;", 1, 12);
        faulty("7 to 6 when dax=1;", 1, 12);
        faulty("7 to 6 when da=1;", 1, 12);
        faulty("7 to 6 when xA=1;", 1, 12);
        faulty("7 to 6 when 1=1Z;", 1, 15);
        faulty("7 toZ", 1, 2);
        faulty("7 toA", 1, 2);
        faulty("7 toz", 1, 2);
        faulty("7 toa", 1, 2);
        faulty("7 to@", 1, 4);
        faulty("7 to[", 1, 4);
        faulty("7 to`", 1, 4);
        faulty("7 to{", 1, 4);
        faulty("7 t o 6;", 1, 2);
        faulty("7 to nonewhen 1=1;", 1, 5);
        faulty("7 to 6 when dayday=1;", 1, 12);
        faulty("7 to 6 when lengths=1;", 1, 12);
        faulty("7 to 6 when A=1;", 1, 12);
        faulty("7 to 12345;", 1, 5);
        faulty("12345 to 1;", 1, 0);
        faulty("7 to 6 when 1/00000=1;", 1, 14);
        faulty("7\tto 6;", 1, 1);
        faulty("7\rto 6;", 1, 1);
        faulty("7 to 6 when 1=1 & 1=1;", 1, 16);
        faulty("7 to 6.", 1, 6);
        faulty("7 to 6;\0", 1, 7);
    }

    private static void wrongNumbers() {
        faulty("77 to 6;", 2, 0);
        faulty("07 to 6;", 2, 0);
        faulty("7 to 6; 1234", 2, 8);
        faulty("77", 2, 0);
        faulty("7 to 6 when 1/0=1;", 2, 14);
        faulty("7 to 6 when 1 / 0000 ?", 2, 16);
        faulty("7 to 6 when 1/2/0=1;", 2, 16);
    }

    private static void tooMany() {
        faulty(LONG_LINES + "7 to 6;", 3, 114);
        faulty(LONG_LINES + "7\n\nto?", 3, 115);
        faulty(LONG_LINES + "77 to 6;", 2, 112);
        faulty(LONG_LINES + "7 6", 1, 114);
        faulty(LONG_LINES + "7", 1, 113);
        faulty("7 to 1 when not not not not not not not not not 1=1;", 3, 44);
        faulty("7 to 1 when (((((((((1=1)))))))));", 3, 20);
        faulty("7 to 1 when not(not(not(not(not 1=1))));", 3, 28);
        faulty("7 to 1 when ((((((((1=1 or (1=1))))))));", 3, 27);
        faulty("7 to 1 when ((((((((1=1))))))))and(((((((( not 1=1;", 3, 43);
    }

    private static void kinds() {
        LostSevens x = new LostSevens();
        Due.rules(x, 0, "7 to 6 when");
        Due.due("a fault", x.fault(0), 1);
        Due.due("kind 4", Due.rules(x, 4, "7"), NONE);
        Due.due("tells no fault", x.fault(0), 0);
        Due.due("and no place", x.fault(1), NONE);
        Due.due("kind -1", Due.rules(x, -1, "7 to 6;"), NONE);
        for (int kind = 0; kind < 4; kind++) {
            Due.due("kind " + kind, Due.rules(x, kind, "7 to 6;".repeat(kind + 1)), kind + 1);
        }
        Due.due("told anew", Due.rules(x, 2, ""), 0);
        for (int kind = 0; kind < 4; kind++) {
            Due.due("lines of " + kind, x.tells(10 + kind), kind == 2 ? 0 : kind + 1);
        }
    }

    /** Whatever was read before, right or wrong, the latest rules hold and no others. */
    private static void manyTexts() {
        LostSevens x = new LostSevens();
        x.line(0, 1, 0, 0, 0, 0);
        Due.paper(x, "7");
        String condition = "1=2" + " or 1=2".repeat(44);
        for (int i = 0; i < 5; i++) {
            Due.due("a long text", Due.rules(x, 0, "7 to 8 when " + condition + " or 3=3;"), 1);
            Due.due("holds", x.comes(0, 0, 0), 8);
            Due.due("a faulty one", Due.rules(x, 0, "7 to 6;7 to 8 when " + condition), NONE);
            Due.due("still holds", x.comes(0, 0, 0), 8);
            Due.due("much is open", Due.rules(x, 0, "7 to 6 when not(not(not(1+2*3"), NONE);
            Due.due("its opposite", Due.rules(x, 0, "7 to 8 when " + condition + ";"), 1);
            Due.due("does not hold", x.comes(0, 0, 0), 7);
            Due.due("open again", Due.rules(x, 0, "7 to 6 when ((((((((1=2 and 3*4"), NONE);
            Due.due("all may be open", Due.rules(x, 0, "7 to 5 when ((((((((1=1))))))));"), 1);
            Due.due("and hold", x.comes(0, 0, 0), 5);
            Due.due("short ones", Due.rules(x, 0, "7 to 1 when 1=2;7 to 234;"), 2);
            Due.due("hold", Due.comes(x, 0, 0), "234");
            Due.due("a shorter one", Due.rules(x, 0, "7 to none;"), 1);
            Due.due("holds", Due.comes(x, 0, 0), "");
        }
    }
}
