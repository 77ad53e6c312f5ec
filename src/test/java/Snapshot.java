/** All that an object answers, as a text, so that two objects or two moments can be compared. */
final class Snapshot {
    private static final int NONE = LostSevens.NONE;

    private Snapshot() {
    }

    /** All but the tape, the latest fault and what can be undone: what an image holds. */
    static String held(LostSevens x) {
        StringBuilder all = new StringBuilder();
        for (int what = 0; what < 14; what++) {
            if (what != 6) {
                all.append("tells ").append(what).append(' ').append(x.tells(what)).append('\n');
            }
        }
        for (int line = 0; line < x.tells(0); line++) {
            for (int what = 0; what < 20; what++) {
                if (what < 7 || what > 9) {
                    all.append(x.of(line, what)).append(' ');
                }
            }
            all.append("of ").append(line).append('\n');
        }
        addBook(all, x);
        for (int what = 0; what < 3; what++) {
            all.append("message ").append(Due.message(x, what)).append('\n');
        }
        all.append("creep ").append(x.creep()).append(" clerks ").append(x.clerks()).append('\n');
        addThoughts(all, x);
        return all.toString();
    }

    private static void addBook(StringBuilder all, LostSevens x) {
        for (int i = 0; i < x.tells(2); i++) {
            for (int what = 0; what < 4; what++) {
                all.append(x.book(i, what)).append(' ');
            }
            all.append("book ").append(i).append('\n');
        }
    }

    private static void addThoughts(StringBuilder all, LostSevens x) {
        for (int line = 0; line < Math.min(2, x.tells(0)); line++) {
            for (int frost = 0; frost < 2; frost++) {
                all.append("comes ").append(Due.comes(x, line, frost)).append('\n');
            }
            for (int what = 0; what < 3; what++) {
                all.append("cure ").append(x.cure(line, what)).append('\n');
            }
        }
    }

    /** With the latest fault and what can be undone. */
    static String all(LostSevens x) {
        return held(x) + "fault " + x.fault(0) + " at " + x.fault(1) + " undo " + x.tells(6) + "\n";
    }

    /** With the tape, which is no more then: that it has just so many bytes, and how it reads. */
    static String allWithTape(LostSevens x, int bytes) {
        String all = all(x);
        return all + "more " + x.end(bytes + 1) + " so many " + x.end(bytes)
                + " lines " + x.text(3) + " fault " + x.fault(0) + " at " + x.fault(1)
                + " undone " + undoAll(x);
    }

    /** What comes back by undoing all that can be. */
    private static String undoAll(LostSevens x) {
        StringBuilder all = new StringBuilder();
        while (x.undo()) {
            all.append(x.tells(2)).append(' ').append(x.tells(3)).append(' ').append(x.creep())
                    .append(' ').append(x.read(2, NONE)).append(", ");
        }
        return all.toString();
    }
}
