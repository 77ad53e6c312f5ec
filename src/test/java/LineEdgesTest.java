/**
 * Promises 1 to 4, 13 and 14, and the terms of part 1: each sentence of the document that names a
 * boundary has a method here, with the sentence above it.
 */
public final class LineEdgesTest {
    private static final int NONE = LostSevens.NONE;

    public static void main(String[] args) {
        stateAtFirst();
        stateIsAnyInt();
        drawsWrap();
        highestBitsWithoutSign();
        drawOfThousand();
        stations();
        unlikeStations();
        twelveLines();
        kinds();
        sets();
        odds();
        noFrostAtFirst();
        noDrawWithoutOdds();
        drawsByNumber();
        noLinesNoFrost();
        allLinesFrozen();
        lastDay();
        countsOfDigits();
        Due.close();
    }

    /** "STATE of draws (an int, 0 at first)". */
    private static void stateAtFirst() {
        Due.due("told", new LostSevens().tells(4), 0);
        Due.due("what it was", new LostSevens().state(1), 0);
    }

    /** "STATE is told: what it was." */
    private static void stateIsAnyInt() {
        LostSevens x = new LostSevens();
        int was = 0;
        for (int v : new int[] {Integer.MIN_VALUE, Integer.MAX_VALUE, -1, 1, 0, 0}) {
            Due.due("was", x.state(v), was);
            Due.due("is", x.tells(4), v);
            was = v;
        }
    }

    /** The state from which one draw leads to this one. */
    private static int before(int state) {
        int inverse = 1;
        for (int i = 0; i < 5; i++) {
            inverse *= 2 - 1664525 * inverse;
        }
        return (state - 1013904223) * inverse;
    }

    /** Whether a draw that leads to this state is told by odds as this number. */
    private static void drawIs(int state, int drawn) {
        for (int odds = drawn; odds <= drawn + 1; odds++) {
            if (odds > 0 && odds <= 1000) {
                LostSevens x = new LostSevens();
                x.line(0, 1, 0, 0, 0, odds);
                x.state(before(state));
                Due.due("frost by " + odds, x.day(), odds > drawn ? 1 : 0);
                Due.due("state", x.tells(4), state);
            }
        }
    }

    /** "it becomes 1664525 times itself + 1013904223 (ints, which wrap)". */
    private static void drawsWrap() {
        int[] states = {Integer.MAX_VALUE, Integer.MIN_VALUE, -1, 1, 1291, 1290};
        for (int state : states) {
            LostSevens x = new LostSevens();
            x.line(0, 1, 0, 0, 0, 1);
            x.state(state);
            x.day();
            java.math.BigInteger wide = java.math.BigInteger.valueOf(state)
                    .multiply(java.math.BigInteger.valueOf(1664525))
                    .add(java.math.BigInteger.valueOf(1013904223));
            Due.due("from " + state, x.tells(4), wide.intValue());
        }
    }

    /** "then it is its highest 24 bits (without sign) modulo m". */
    private static void highestBitsWithoutSign() {
        drawIs(0xFFFFFFFF, 16777215 % 1000);
        drawIs(0x80000000, 8388608 % 1000);
        drawIs(0x7FFFFFFF, 8388607 % 1000);
        drawIs(0x000000FF, 0);
        drawIs(0x00000100, 1);
        drawIs(0xFFFFFF00, 16777215 % 1000);
    }

    /** The same, where 1000 is just reached: 999 is the greatest draw, 0 comes behind it. */
    private static void drawOfThousand() {
        drawIs(999 << 8, 999);
        drawIs(1000 << 8, 0);
        drawIs((1000 << 8) - 1, 999);
        drawIs(1001 << 8, 1);
    }

    /** "STATIONS 0 .. 7." */
    private static void stations() {
        LostSevens x = new LostSevens();
        Due.due("the least and the greatest", x.line(0, 7, 0, 0, 0, 0), 0);
        Due.due("turned", x.line(7, 0, 0, 0, 0, 0), 1);
        Due.due("first is 0", x.of(0, 0), 0);
        Due.due("second is 7", x.of(0, 1), 7);
        Due.due("first is 7", x.of(1, 0), 7);
        Due.due("second is 0", x.of(1, 1), 0);
        Due.due("first below", x.line(-1, 7, 0, 0, 0, 0), NONE);
        Due.due("first above", x.line(8, 7, 0, 0, 0, 0), NONE);
        Due.due("second below", x.line(0, -1, 0, 0, 0, 0), NONE);
        Due.due("second above", x.line(0, 8, 0, 0, 0, 0), NONE);
        Due.due("two came", x.tells(0), 2);
    }

    /** "two unlike STATIONS". */
    private static void unlikeStations() {
        LostSevens x = new LostSevens();
        for (int station = 0; station < 8; station++) {
            Due.due("to itself", x.line(station, station, 0, 0, 0, 0), NONE);
        }
        Due.due("none came", x.tells(0), 0);
    }

    /** "LINES 0 .. 11 as they come"; "NONE if one can't be, or there are twelve". */
    private static void twelveLines() {
        LostSevens x = new LostSevens();
        Due.due("no line 0", x.of(0, 0), NONE);
        for (int i = 0; i < 12; i++) {
            Due.due("no line yet", x.of(i, 0), NONE);
            Due.due("one that can't be takes no number", x.line(1, 1, 0, 0, 0, 0), NONE);
            Due.due("its number", x.line(i % 8, (i + 1) % 8, 0, 0, 0, i), i);
            Due.due("how many", x.tells(0), i + 1);
        }
        Due.due("the 13th", x.line(0, 1, 0, 0, 0, 0), NONE);
        Due.due("no line 12", x.of(12, 0), NONE);
        Due.due("twelve", x.tells(0), 12);
        for (int i = 0; i < 12; i++) {
            Due.due("each has its own", x.of(i, 5), i);
        }
    }

    /** "a KIND 0 .. 3 (whose RULES its clerk has)". */
    private static void kinds() {
        LostSevens x = new LostSevens();
        for (int kind = 0; kind < 4; kind++) {
            Due.rules(x, kind, "7 to " + kind + ";");
            Due.due("kind " + kind, x.line(0, 1, kind, 0, 0, 0), kind);
        }
        Due.due("below", x.line(0, 1, -1, 0, 0, 0), NONE);
        Due.due("above", x.line(0, 1, 4, 0, 0, 0), NONE);
        Due.paper(x, "7");
        for (int kind = 0; kind < 4; kind++) {
            Due.due("its clerk", x.comes(kind, 0, 0), kind);
            Due.due("another clerk", x.set(kind, 3, 3 - kind), true);
            Due.due("told anew", x.comes(kind, 0, 0), 3 - kind);
        }
    }

    /** "LOSES (a set of digits: d counts 2 to the d), FREEZES (a set that is lost, too ..)". */
    private static void sets() {
        LostSevens x = new LostSevens();
        Due.due("nothing and all", x.line(0, 1, 0, 0, 1023, 0), 0);
        Due.due("all and nothing", x.line(0, 1, 0, 1023, 0, 0), 1);
        Due.due("below", x.line(0, 1, 0, -1, 0, 0), NONE);
        Due.due("above", x.line(0, 1, 0, 1024, 0, 0), NONE);
        Due.due("freezes below", x.line(0, 1, 0, 0, -1, 0), NONE);
        Due.due("freezes above", x.line(0, 1, 0, 0, 1024, 0), NONE);
        Due.paper(x, "0123456789");
        Due.due("loses nothing", Due.comes(x, 0, 0), "0123456789");
        Due.due("freezes all", Due.comes(x, 0, 1), "");
        Due.due("loses all", Due.comes(x, 1, 0), "");
        for (int digit = 0; digit < 10; digit++) {
            x.set(0, 0, 1 << digit);
            Due.due("loses " + digit, Due.comes(x, 0, 0), "0123456789".replace("" + digit, ""));
        }
        x.set(0, 1, 0x200);
        x.set(0, 0, 1);
        Due.due("both in frost", Due.comes(x, 0, 1), "12345678");
    }

    /** "ODDS 0 .. 1000." */
    private static void odds() {
        LostSevens x = new LostSevens();
        Due.due("none", x.line(0, 1, 0, 0, 0, 0), 0);
        Due.due("all", x.line(0, 1, 0, 0, 0, 1000), 1);
        Due.due("below", x.line(0, 1, 0, 0, 0, -1), NONE);
        Due.due("above", x.line(0, 1, 0, 0, 0, 1001), NONE);
        for (int day = 0; day < 60; day++) {
            Due.due("by 0 never, by 1000 ever", x.day(), 1);
            Due.due("it is that one", x.of(1, 6), 1);
        }
    }

    /** "FROST on a LINE today or not (not at first)." */
    private static void noFrostAtFirst() {
        LostSevens x = new LostSevens();
        x.line(0, 1, 0, 0, 0, 1000);
        Due.due("at first", x.of(0, 6), 0);
        x.day();
        Due.due("another one, too", x.line(0, 1, 0, 0, 0, 1000), 1);
        Due.due("at its first", x.of(1, 6), 0);
        Due.due("the first has it", x.of(0, 6), 1);
        x.image(true);
        x.line(0, 1, 0, 0, 0, 0);
        x.set(2, 4, 1);
        x.image(false);
        x.line(0, 1, 0, 0, 0, 0);
        Due.due("also where one was before the image", x.of(2, 6), 0);
        Due.due("that lost nothing", x.of(2, 17), 0);
    }

    /** "for each LINE by number a DRAW of 1000, if its ODDS are above 0 .. else none". */
    private static void noDrawWithoutOdds() {
        LostSevens x = new LostSevens();
        x.line(0, 1, 0, 0, 0, 0);
        x.set(0, 4, 1);
        x.state(77);
        Due.due("no frost", x.day(), 0);
        Due.due("no draw", x.tells(4), 77);
        Due.due("today's is gone", x.of(0, 6), 0);
        x.set(0, 2, 1);
        x.day();
        Due.due("a draw for odds of 1", x.tells(4), 77 * 1664525 + 1013904223);
    }

    /** "by number": the first draw is the first line's. From 0 the draws are 563 and 577. */
    private static void drawsByNumber() {
        int second = 1013904223 * 1664525 + 1013904223 >>> 8;
        int[] draws = {(1013904223 >>> 8) % 1000, second % 1000};
        for (int turned = 0; turned < 2; turned++) {
            LostSevens x = new LostSevens();
            x.line(0, 1, 0, 0, 0, draws[turned]);
            x.line(0, 1, 0, 0, 0, draws[1 - turned] + 1);
            int first = draws[0] < draws[turned] ? 1 : 0;
            int other = draws[1] < draws[1 - turned] + 1 ? 1 : 0;
            Due.due("both", x.day(), first + other);
            Due.due("the first", x.of(0, 6), first);
            Due.due("the second", x.of(1, 6), other);
        }
    }

    /** "on how many LINES there is FROST now": without lines none, and nothing is drawn. */
    private static void noLinesNoFrost() {
        LostSevens x = new LostSevens();
        Due.due("none", x.day(), 0);
        Due.due("a day", x.tells(1), 1);
        Due.due("no draw", x.tells(4), 0);
    }

    /** The same with twelve lines. */
    private static void allLinesFrozen() {
        LostSevens x = new LostSevens();
        for (int i = 0; i < 12; i++) {
            x.line(0, 1, 0, 0, 0, 1000);
        }
        Due.due("all", x.day(), 12);
        for (int i = 0; i < 12; i++) {
            x.set(i, 2, 0);
        }
        Due.due("none", x.day(), 0);
    }

    /**
     * "DAY 0 .. 9999 (0 at first)"; "NONE, and nothing is done, if DAY is 9999". So many calls are
     * more than the document answers for; the bound holds all the same.
     */
    private static void lastDay() {
        LostSevens x = new LostSevens();
        x.line(0, 1, 0, 0x80, 0, 1000);
        Due.rules(x, 0, "1 to 2 when day=9999;");
        Due.due("at first", x.tells(1), 0);
        for (int day = 1; day <= 9999; day++) {
            if (x.day() != 1 || x.tells(1) != day) {
                Due.due("day", x.tells(1), day);
            }
        }
        Due.due("the last", x.tells(1), 9999);
        Due.paper(x, "17");
        Due.due("rules know it", x.comes(0, 0, 0), 2);
        x.send(0, 0, NONE, NONE, NONE);
        x.set(0, 4, 0);
        x.send(0, 0, NONE, NONE, NONE);
        int state = x.tells(4);
        Due.due("no more", x.day(), NONE);
        Due.due("still the last", x.tells(1), 9999);
        Due.due("nothing is drawn", x.tells(4), state);
        Due.due("frost is as it was", x.of(0, 6), 0);
        Due.due("the book has it", x.book(0, 2), 9999);
        Due.due("what can be undone stays", x.tells(6), 1);
    }

    /** "10 + d how often it LOST digit d in sendings": the first and the last digit. */
    private static void countsOfDigits() {
        LostSevens x = new LostSevens();
        x.line(0, 1, 0, 0x201, 0, 0);
        x.line(0, 1, 0, 0x201, 0, 0);
        Due.due("none yet", x.of(0, 10) + x.of(0, 19), 0);
        Due.paper(x, "09990");
        x.send(0, 0, NONE, NONE, NONE);
        Due.due("0", x.of(0, 10), 2);
        Due.due("9", x.of(0, 19), 3);
        Due.due("1", x.of(0, 11), 0);
        Due.due("8", x.of(0, 18), 0);
        Due.due("what 9", x.of(0, 9), NONE);
        Due.due("what 20", x.of(0, 20), NONE);
        Due.due("not the other line's", x.of(1, 10) + x.of(1, 19), 0);
        x.comes(1, 0, 0);
        Due.due("nor in thought", x.of(1, 10) + x.of(1, 19), 0);
    }
}
