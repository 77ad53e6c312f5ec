import java.util.Random;

/** Long runs of calls, drawn with fixed seeds, whose every answer must be the model's. */
public final class ModelTest {
    private static final int NONE = LostSevens.NONE;
    private static final int CALLS = 512;
    private static final String[] SCRAPS = {"7", "to", "none", "when", "or", "and", "not", "day",
        "frost", "place", "length", "left", "right", ";", "+", "-", "*", "/", "(", ")", "<", "=",
        ">", " ", "\n", "\t", "0", "00", "12345", "77", "tox", "Day", "?", "\u00e9", "not not "};
    private final Random random;
    private final LostSevens x = new LostSevens();
    private final Model m = new Model();
    private final String run;
    private int calls = 0;
    private boolean same = true;
    private String text = null;
    private int fed = 0;
    private final int stations;
    private final boolean lossy;

    private ModelTest(long seed) {
        random = new Random(seed);
        run = "run " + seed + ", call ";
        stations = 2 + random.nextInt(7);
        lossy = random.nextBoolean();
    }

    public static void main(String[] args) {
        int runs = args.length > 0 ? Integer.parseInt(args[0]) : 400;
        int first = args.length > 1 ? Integer.parseInt(args[1]) : 1;
        for (int seed = first; seed < first + runs; seed++) {
            new ModelTest(seed).goThrough();
        }
        Due.close();
    }

    private void goThrough() {
        int begun = random.nextInt(40);
        while (calls < CALLS && same) {
            if (text != null) {
                feedOn();
            } else if (calls < 20 + begun && random.nextInt(8) > 0) {
                if (random.nextInt(4) > 0) {
                    addLine();
                } else {
                    text = aText();
                }
            } else {
                anyCall();
            }
        }
    }

    private void same(String call, long got, long want) {
        calls++;
        same = got == want;
        Due.due(run + calls + ": " + call, got, want);
    }

    private static int flag(boolean b) {
        return b ? 1 : 0;
    }

    /** Mostly from 0 to most, at times what can't be. */
    private int upTo(int most) {
        switch (random.nextInt(100)) {
            case 0: return -1;
            case 1: return most + 1;
            case 2: return random.nextInt(10) == 0 ? Integer.MIN_VALUE + random.nextInt(12)
                    : random.nextInt();
            default: return random.nextInt(Math.max(most, 0) + 1);
        }
    }

    private int station() {
        return upTo(stations - 1);
    }

    private int aLine() {
        return upTo(Math.max(0, m.tells(0) - 1));
    }

    private int aSet() {
        int set = upTo(1023);
        return lossy ? set : set & upTo(1023) & upTo(1023);
    }

    private int aDigit() {
        return random.nextInt(3) > 0 ? random.nextInt(3) + 6 : upTo(9);
    }

    private int rowOr(int most, int length) {
        return random.nextBoolean() ? upTo(most) : 10 + upTo(length);
    }

    private void addLine() {
        int a = station();
        int b = station();
        int kind = upTo(3);
        int loses = aSet();
        int freezes = aSet();
        int odds = random.nextInt(3) == 0 ? 0 : upTo(1000);
        same("line", x.line(a, b, kind, loses, freezes, odds), m.line(a, b, kind, loses, freezes, odds));
    }

    private void feedOn() {
        if (fed < text.length()) {
            int[] f = new int[5];
            for (int i = 0; i < 20; i++) {
                int c = fed + i < text.length() ? text.charAt(fed + i) : ' ';
                f[i / 4] = f[i / 4] << 8 | c;
            }
            same("feed", x.feed(f[0], f[1], f[2], f[3], f[4]), m.feed(f));
            fed += 20;
            return;
        }
        if (fed > text.length()) {
            int n = random.nextInt(40) == 0 ? upTo(400) : text.length();
            same("end " + n, flag(x.end(n)), flag(m.end(n)));
        }
        int kind = upTo(3);
        same("text of '" + text + "'", x.text(kind), m.text(kind));
        same("fault 0 of '" + text + "'", x.fault(0), m.fault(0));
        same("fault 1 of '" + text + "'", x.fault(1), m.fault(1));
        fed = 0;
        text = null;
    }

    private void anyCall() {
        switch (random.nextInt(26)) {
            case 0: if (random.nextInt(3) == 0) { addLine(); } break;
            case 1: if (random.nextInt(3) == 0) { text = aText(); } break;
            case 2: case 3: case 4: {
                int what = random.nextInt(20) == 0 ? upTo(3) : random.nextInt(2);
                int digit = aDigit();
                same("write", x.write(what, digit), m.write(what, digit));
                break;
            }
            case 5: {
                int what = upTo(1);
                if (random.nextInt(6) == 0) {
                    same("blank", x.blank(what), m.blank(what));
                }
                break;
            }
            case 6: {
                int what = upTo(2);
                int i = random.nextInt(3) == 0 ? NONE : upTo(m.read(what, NONE));
                same("read", x.read(what, i), m.read(what, i));
                break;
            }
            case 7: case 8: case 9: sendSomething(); break;
            case 10: if (random.nextInt(3) == 0) { same("day", x.day(), m.day()); } break;
            case 11: {
                int line = aLine();
                int what = rowOr(7, 10);
                same("of", x.of(line, what), m.of(line, what));
                break;
            }
            case 12: {
                int i = random.nextInt(4) == 0 ? upTo(200) : upTo(m.tells(2));
                int what = upTo(3);
                same("book", x.book(i, what), m.book(i, what));
                break;
            }
            case 13: same("creep", x.creep(), m.creep()); break;
            case 14: {
                int line = aLine();
                int frost = upTo(1);
                int i = random.nextInt(4) == 0 ? NONE : upTo(m.comes(line, frost, NONE));
                same("comes", x.comes(line, frost, i), m.comes(line, frost, i));
                break;
            }
            case 15: askMeant(); break;
            case 16: {
                int line = aLine();
                int frost = upTo(1);
                int what = rowOr(0, 4);
                if (random.nextInt(6) == 0) {
                    same("twin", x.twin(line, frost, what), m.twin(line, frost, what));
                }
                break;
            }
            case 17: {
                int line = aLine();
                int k = random.nextInt(10) == 0 ? upTo(20) : 1 + random.nextInt(20);
                int what = rowOr(0, Math.min(k, 20));
                same("code", x.code(line, k, what), m.code(line, k, what));
                break;
            }
            case 18: {
                int from = station();
                int to = station();
                int what = rowOr(1, 3);
                same("best", x.best(from, to, what), m.best(from, to, what));
                break;
            }
            case 19: same("clerks", x.clerks(), m.clerks()); break;
            case 20: lookAndCure(); break;
            case 21: case 22: same("undo", flag(x.undo()), flag(m.undo())); break;
            case 23: {
                boolean taken = random.nextBoolean();
                if (random.nextInt(10) == 0) {
                    same("image", flag(x.image(taken)), flag(m.image(taken)));
                }
                break;
            }
            case 24: {
                int what = rowOr(7, 4);
                same("tells", x.tells(what), m.tells(what));
                break;
            }
            default: setSomething(); break;
        }
    }

    private void setSomething() {
        if (random.nextInt(4) == 0) {
            int v = random.nextInt();
            same("state", x.state(v), m.state(v));
        } else if (random.nextInt(2) == 0) {
            int line = aLine();
            int what = upTo(4);
            int v = random.nextInt(8) == 0 ? upTo(1023)
                    : what == 2 ? upTo(1000) : what == 3 ? upTo(3) : what == 4 ? upTo(1) : aSet();
            same("set", flag(x.set(line, what, v)), flag(m.set(line, what, v)));
        }
    }

    /** A way that can be gone, mostly; from where it must begin. */
    private void sendSomething() {
        int[] way = new int[4];
        int some = aLine();
        int from = m.of(some, 0) == NONE || random.nextInt(20) == 0 ? station() : m.of(some, 0);
        int at = from;
        for (int i = 0; i < 4; i++) {
            int line = aLine();
            for (int tries = 0; tries < 40; tries++) {
                if (m.of(line, 0) == at || m.of(line, 1) == at) {
                    break;
                }
                line = aLine();
            }
            way[i] = random.nextInt(i == 0 ? 30 : 3) == 0 ? NONE : line;
            at = m.of(line, 0) + m.of(line, 1) - at;
        }
        same("send", x.send(from, way[0], way[1], way[2], way[3]), m.send(from, way));
    }

    private void askMeant() {
        int line = aLine();
        int frost = upTo(1);
        int n = random.nextInt(5) == 0 ? upTo(4) : upTo(2);
        if (random.nextInt(8) > 0) {
            same("blank", x.blank(1), m.blank(1));
            for (int i = random.nextInt(4); i > 0; i--) {
                int digit = aDigit();
                same("write", x.write(1, digit), m.write(1, digit));
            }
        }
        int what = rowOr(1, 3);
        same("meant", x.meant(line, frost, n, what), m.meant(line, frost, n, what));
    }

    /** Sees what the paper is without some digits, mostly, so that cures are left. */
    private void lookAndCure() {
        int line = aLine();
        if (random.nextInt(3) > 0) {
            int lost = 129;
            same("blank", x.blank(1), m.blank(1));
            for (int i = 0; i < m.read(0, -1); i++) {
                int digit = m.read(0, i);
                if ((lost >> digit & 1) == 0) {
                    same("write", x.write(1, digit), m.write(1, digit));
                }
            }
        }
        if (random.nextInt(2) == 0) {
            same("look", x.look(line), m.look(line));
        }
        int what = upTo(2);
        same("cure", x.cure(line, what), m.cure(line, what));
    }

    private String aText() {
        StringBuilder made = new StringBuilder();
        int lines = random.nextInt(12) == 0 ? 14 + random.nextInt(5) : 1 + random.nextInt(6);
        for (int i = 0; i < lines; i++) {
            StringBuilder rule = new StringBuilder();
            rule.append(aDigitText()).append(blanks(true)).append("to").append(blanks(true));
            rule.append(random.nextInt(4) == 0 ? "none" : aNumber());
            if (lines < 10 && random.nextInt(4) > 0) {
                rule.append(blanks(false)).append("when").append(blanks(true)).append(b(0));
            }
            rule.append(blanks(true)).append(';');
            if (made.length() + rule.length() < 395) {
                made.append(rule);
            }
        }
        for (int i = random.nextInt(3); i > 0 && random.nextInt(5) == 0; i--) {
            int at = random.nextInt(made.length() + 1);
            int to = Math.min(made.length(), at + random.nextInt(3));
            made.replace(at, to, SCRAPS[random.nextInt(SCRAPS.length)]);
        }
        made.setLength(Math.min(400, made.length()));
        return made.toString();
    }

    private String aDigitText() {
        return random.nextInt(300) == 0 ? "77" : String.valueOf(random.nextInt(2) == 0 ? 7 : random.nextInt(10));
    }

    private String blanks(boolean mayLack) {
        int many = random.nextInt(6);
        return many == 0 && mayLack ? "" : many == 1 ? "\n" : many == 2 ? "  " : " ";
    }

    private String aNumber() {
        StringBuilder number = new StringBuilder();
        for (int i = random.nextInt(random.nextInt(40) == 0 ? 5 : 3); i >= 0; i--) {
            number.append(random.nextInt(4) == 0 ? 0 : random.nextInt(10));
        }
        return number.toString();
    }

    private String b(int depth) {
        String all = a(depth);
        while (random.nextInt(4) == 0) {
            all += blanks(false) + "or " + a(depth);
        }
        return all;
    }

    private String a(int depth) {
        String all = c(depth);
        while (random.nextInt(4) == 0) {
            all += " and" + blanks(false) + c(depth);
        }
        return all;
    }

    private String c(int depth) {
        int open = random.nextInt(depth > 10 ? 20 : 6);
        if (open == 0) {
            return "not " + c(depth + 1);
        }
        if (open == 1) {
            return "(" + blanks(true) + b(depth + 1) + blanks(true) + ")";
        }
        if (random.nextInt(150) == 0) {
            return "not (not(not(not(not(not 1=2))))) ";
        }
        return e() + "<=>".charAt(random.nextInt(3)) + e();
    }

    private String e() {
        String all = t();
        while (random.nextInt(4) == 0) {
            all += (random.nextBoolean() ? "+" : "-") + t();
        }
        return all;
    }

    private String t() {
        String all = u();
        while (random.nextInt(4) == 0) {
            all += random.nextBoolean() ? "*" + u() : blanks(true) + "/" + blanks(true) + divisor();
        }
        return all;
    }

    private String divisor() {
        return random.nextInt(80) == 0 ? u() : random.nextInt(80) == 0 ? "00" : String.valueOf(1 + random.nextInt(9));
    }

    private String u() {
        int which = random.nextInt(9);
        return which < 6 ? SCRAPS[7 + which] : aNumber();
    }
}
