/** Counts answers that are not as due, and helps the tests to tell texts and messages. */
final class Due {
    static final int NONE = LostSevens.NONE;
    private static int wrong = 0;
    private static int asked = 0;

    private Due() {
    }

    static void due(String what, long got, long want) {
        asked++;
        if (got != want) {
            wrong++;
            System.out.println(what + " answered " + got + ", due is " + want);
        }
    }

    static void due(String what, boolean got, boolean want) {
        due(what, got ? 1 : 0, want ? 1 : 0);
    }

    static void due(String what, String got, String want) {
        due(what + ": '" + got + "' for '" + want + "'", got.equals(want), true);
    }

    /** Ends the test's main method. */
    static void close() {
        System.out.println(asked + " answers, " + wrong + " of them wrong");
        if (wrong != 0 || asked == 0) {
            System.exit(1);
        }
    }

    /** Feeds a text whose characters are bytes; the tape is empty before. */
    static void feed(LostSevens x, String text) {
        StringBuilder filled = new StringBuilder(text);
        while (filled.length() % 20 != 0) {
            filled.append(' ');
        }
        for (int i = 0; i < filled.length(); i += 20) {
            due("feed", x.feed(four(filled, i), four(filled, i + 4), four(filled, i + 8),
                    four(filled, i + 12), four(filled, i + 16)), i + 20);
        }
        due("end", x.end(text.length()), true);
    }

    static int rules(LostSevens x, int kind, String text) {
        feed(x, text);
        return x.text(kind);
    }

    private static int four(CharSequence text, int at) {
        return text.charAt(at) << 24 | text.charAt(at + 1) << 16
                | text.charAt(at + 2) << 8 | text.charAt(at + 3);
    }

    static void paper(LostSevens x, String digits) {
        rewrite(x, 0, digits);
    }

    static void seen(LostSevens x, String digits) {
        rewrite(x, 1, digits);
    }

    private static void rewrite(LostSevens x, int what, String digits) {
        x.blank(what);
        for (int i = 0; i < digits.length(); i++) {
            due("write", x.write(what, digits.charAt(i) - '0'), i + 1);
        }
    }

    static String came(LostSevens x) {
        return message(x, 2);
    }

    static String message(LostSevens x, int what) {
        StringBuilder digits = new StringBuilder();
        for (int i = 0; i < x.read(what, NONE); i++) {
            digits.append(x.read(what, i));
        }
        return digits.toString();
    }

    static String comes(LostSevens x, int line, int frost) {
        StringBuilder digits = new StringBuilder();
        for (int i = 0; i < x.comes(line, frost, NONE); i++) {
            digits.append(x.comes(line, frost, i));
        }
        return digits.toString();
    }
}
