import java.util.ArrayList;
import java.util.Arrays;
import java.util.HashSet;
import java.util.List;
import java.util.Set;
import java.util.function.ToIntFunction;

/**
 * The document once more, written as slowly and plainly as it reads: messages are texts, rules
 * are trees, all messages are gone through, undo and image are copies of everything.
 */
final class Model {
    private static final int NONE = -1;
    private static final Set<String> WORDS = Set.of("to", "none", "when", "or", "and", "not",
            "day", "frost", "place", "length", "left", "right");

    /** What a rule's words stand for, when it is asked about one digit. */
    private record Here(int day, int frost, int place, int length, int left, int right) {
    }

    private record Rule(char digit, String instead, ToIntFunction<Here> when) {
    }

    private record Line(int a, int b, int kind, int loses, int freezes, int odds, boolean frost) {
        boolean loses(char digit, boolean inFrost) {
            int set = inFrost ? loses | freezes : loses;
            return (set & (1 << (digit - '0'))) != 0;
        }
    }

    private record Entry(int line, int digit, int day, int place) {
    }

    private record Look(int line, String paper, String seen) {
    }

    private static final class World implements Cloneable {
        int state = 0;
        int day = 0;
        int sent = 0;
        long creep = 0;
        String paper = "";
        String seen = "";
        String came = "";
        List<Line> lines = List.of();
        List<List<Rule>> rules = List.of(List.of(), List.of(), List.of(), List.of());
        List<Entry> book = List.of();
        /** All that was ever lost, beyond the book too. */
        List<Entry> lost = List.of();
        List<Look> looks = List.of();

        /** Lists are replaced, never changed, so a copy of the references is a copy. */
        World copy() {
            try {
                return (World) clone();
            } catch (CloneNotSupportedException e) {
                throw new AssertionError(e);
            }
        }
    }

    private static final class Fault extends RuntimeException {
        private static final long serialVersionUID = 1;
        final int fault;
        final int place;

        Fault(int fault, int place) {
            this.fault = fault;
            this.place = place;
        }
    }

    private World w = new World();
    private World image = null;
    private final List<World> past = new ArrayList<>();
    private String tape = "";
    private int fault = 0;
    private int faultPlace = NONE;

    private static <T> List<T> with(List<T> list, T more) {
        List<T> all = new ArrayList<>(list);
        all.add(more);
        return all;
    }

    private static <T> List<T> replaced(List<T> list, int i, T by) {
        List<T> all = new ArrayList<>(list);
        all.set(i, by);
        return all;
    }

    private static boolean in(int v, int least, int most) {
        return v >= least && v <= most;
    }

    private boolean isLine(int line) {
        return in(line, 0, w.lines.size() - 1);
    }

    int state(int v) {
        int was = w.state;
        w.state = v;
        return was;
    }

    int line(int a, int b, int kind, int loses, int freezes, int odds) {
        if (!in(a, 0, 7) || !in(b, 0, 7) || a == b || !in(kind, 0, 3) || !in(loses, 0, 1023)
                || !in(freezes, 0, 1023) || !in(odds, 0, 1000) || w.lines.size() == 12) {
            return NONE;
        }
        w.lines = with(w.lines, new Line(a, b, kind, loses, freezes, odds, false));
        past.clear();
        return w.lines.size() - 1;
    }

    boolean set(int line, int what, int v) {
        int[] most = {1023, 1023, 1000, 3, 1};
        if (!isLine(line) || !in(what, 0, 4) || !in(v, 0, most[what])) {
            return false;
        }
        Line l = w.lines.get(line);
        w.lines = replaced(w.lines, line, new Line(l.a, l.b, what == 3 ? v : l.kind,
                what == 0 ? v : l.loses, what == 1 ? v : l.freezes, what == 2 ? v : l.odds,
                what == 4 ? v == 1 : l.frost));
        past.clear();
        return true;
    }

    int write(int what, int digit) {
        if (!in(what, 0, 1) || !in(digit, 0, 9)) {
            return NONE;
        }
        String written = what == 0 ? w.paper : w.seen;
        if (written.length() == 12) {
            return NONE;
        }
        rewrite(what, written + digit);
        return written.length() + 1;
    }

    private void rewrite(int what, String message) {
        if (what == 0) {
            w.paper = message;
        } else {
            w.seen = message;
        }
    }

    int blank(int what) {
        if (!in(what, 0, 1)) {
            return NONE;
        }
        int had = (what == 0 ? w.paper : w.seen).length();
        rewrite(what, "");
        return had;
    }

    int read(int what, int i) {
        return in(what, 0, 2) ? lengthOrDigit(List.of(w.paper, w.seen, w.came).get(what), i) : NONE;
    }

    private static int lengthOrDigit(String message, int i) {
        return i == NONE ? message.length() : digit(message, i);
    }

    private static int digit(String message, long i) {
        return i >= 0 && i < message.length() ? message.charAt((int) i) - '0' : NONE;
    }

    int feed(int... numbers) {
        if (tape.length() > 380) {
            return NONE;
        }
        for (int number : numbers) {
            for (int shift = 24; shift >= 0; shift -= 8) {
                tape += (char) ((number >> shift) & 255);
            }
        }
        return tape.length();
    }

    boolean end(int n) {
        if (!in(n, 0, tape.length())) {
            return false;
        }
        tape = tape.substring(0, n);
        return true;
    }

    int text(int kind) {
        fault = 0;
        faultPlace = NONE;
        String text = tape;
        tape = "";
        if (!in(kind, 0, 3)) {
            return NONE;
        }
        try {
            List<Rule> read = new Reader(text).rules();
            w.rules = replaced(w.rules, kind, read);
            return read.size();
        } catch (Fault f) {
            fault = f.fault;
            faultPlace = f.place;
            return NONE;
        }
    }

    int fault(int what) {
        return what == 0 ? fault : what == 1 ? faultPlace : NONE;
    }

    /** Recursive descent, a token at a time. */
    private static final class Reader {
        private final String text;
        private int place;
        private String token = "";

        Reader(String text) {
            this.text = text;
            next();
        }

        private void next() {
            place += token.length();
            while (place < text.length() && " \n".indexOf(text.charAt(place)) >= 0) {
                place++;
            }
            int to = place;
            String all = place == text.length() ? "" : classOf(text.charAt(place));
            if (all.isEmpty()) {
                to = Math.min(place + 1, text.length());
            } else {
                while (to < text.length() && classOf(text.charAt(to)).equals(all)) {
                    to++;
                }
            }
            token = text.substring(place, to);
        }

        private static String classOf(char c) {
            return (c + "").matches("[a-zA-Z]") ? "letters" : (c + "").matches("[0-9]") ? "digits" : "";
        }

        private boolean isNumber() {
            return token.matches("[0-9]{1,4}");
        }

        private void need(boolean so, int fault) {
            if (!so) {
                throw new Fault(fault, place);
            }
        }

        private boolean take(String wanted) {
            boolean there = token.equals(wanted);
            if (there) {
                next();
            }
            return there;
        }

        private String takeNumber() {
            need(isNumber(), 1);
            String number = token;
            next();
            return number;
        }

        List<Rule> rules() {
            List<Rule> rules = new ArrayList<>();
            while (!token.isEmpty()) {
                need(isNumber(), 1);
                need(token.length() == 1, 2);
                char digit = takeNumber().charAt(0);
                need(token.equals("to"), 1);
                need(rules.size() < 16, 3);
                next();
                String instead = take("none") ? "" : takeNumber();
                ToIntFunction<Here> when = take("when") ? b(0) : here -> 1;
                need(take(";"), 1);
                rules.add(new Rule(digit, instead, when));
            }
            return rules;
        }

        private ToIntFunction<Here> b(int open) {
            ToIntFunction<Here> left = a(open);
            while (take("or")) {
                ToIntFunction<Here> l = left;
                ToIntFunction<Here> r = a(open);
                left = here -> l.applyAsInt(here) == 1 || r.applyAsInt(here) == 1 ? 1 : 0;
            }
            return left;
        }

        private ToIntFunction<Here> a(int open) {
            ToIntFunction<Here> left = c(open);
            while (take("and")) {
                ToIntFunction<Here> l = left;
                ToIntFunction<Here> r = c(open);
                left = here -> l.applyAsInt(here) == 1 && r.applyAsInt(here) == 1 ? 1 : 0;
            }
            return left;
        }

        private ToIntFunction<Here> c(int open) {
            if (token.equals("not") || token.equals("(")) {
                need(open < 8, 3);
            }
            if (take("not")) {
                ToIntFunction<Here> c = c(open + 1);
                return here -> c.applyAsInt(here) == 1 ? 0 : 1;
            }
            if (take("(")) {
                ToIntFunction<Here> b = b(open + 1);
                need(take(")"), 1);
                return b;
            }
            ToIntFunction<Here> l = e();
            String sign = token;
            need(sign.matches("[<=>]"), 1);
            next();
            ToIntFunction<Here> r = e();
            return here -> {
                int order = Integer.compare(l.applyAsInt(here), r.applyAsInt(here));
                return order == "<=>".indexOf(sign) - 1 ? 1 : 0;
            };
        }

        private ToIntFunction<Here> e() {
            ToIntFunction<Here> left = t();
            while (token.equals("+") || token.equals("-")) {
                int sign = take("+") ? 1 : -1;
                if (sign == -1) {
                    next();
                }
                ToIntFunction<Here> l = left;
                ToIntFunction<Here> r = t();
                left = here -> l.applyAsInt(here) + sign * r.applyAsInt(here);
            }
            return left;
        }

        private ToIntFunction<Here> t() {
            ToIntFunction<Here> left = u();
            while (token.equals("*") || token.equals("/")) {
                ToIntFunction<Here> l = left;
                if (take("*")) {
                    ToIntFunction<Here> r = u();
                    left = here -> l.applyAsInt(here) * r.applyAsInt(here);
                } else {
                    next();
                    need(isNumber(), 1);
                    need(Integer.parseInt(token) != 0, 2);
                    int by = Integer.parseInt(takeNumber());
                    left = here -> l.applyAsInt(here) / by;
                }
            }
            return left;
        }

        private ToIntFunction<Here> u() {
            if (isNumber()) {
                int number = Integer.parseInt(takeNumber());
                return here -> number;
            }
            String word = WORDS.contains(token) ? token : "";
            ToIntFunction<Here> known = switch (word) {
                case "day" -> Here::day;
                case "frost" -> Here::frost;
                case "place" -> Here::place;
                case "length" -> Here::length;
                case "left" -> Here::left;
                case "right" -> Here::right;
                default -> null;
            };
            need(known != null, 1);
            next();
            return known;
        }
    }

    /** What a clerk sends for a message. */
    private String onWire(List<Rule> rules, boolean frost, String message) {
        StringBuilder wire = new StringBuilder();
        for (int i = 0; i < message.length(); i++) {
            Here here = new Here(w.day, frost ? 1 : 0, i, message.length(),
                    i == 0 ? 10 : digit(message, i - 1),
                    i == message.length() - 1 ? 10 : digit(message, i + 1));
            String instead = message.substring(i, i + 1);
            for (Rule rule : rules) {
                if (rule.digit == message.charAt(i) && rule.when.applyAsInt(here) == 1) {
                    instead = rule.instead;
                    break;
                }
            }
            wire.append(instead);
        }
        return wire.substring(0, Math.min(36, wire.length()));
    }

    private String byLine(Line line, boolean frost, String message) {
        String wire = onWire(w.rules.get(line.kind), frost, message);
        StringBuilder came = new StringBuilder();
        for (char digit : wire.toCharArray()) {
            if (!line.loses(digit, frost)) {
                came.append(digit);
            }
        }
        return came.toString();
    }

    private static long value(String message) {
        String last = message.substring(Math.max(0, message.length() - 9));
        return last.isEmpty() ? 0 : Long.parseLong(last);
    }

    int send(int from, int... asked) {
        List<Integer> way = new ArrayList<>();
        for (int line : asked) {
            if (line == NONE) {
                break;
            }
            way.add(line);
        }
        if (way.isEmpty() || !in(from, 0, 7)) {
            return NONE;
        }
        int station = from;
        for (int line : way) {
            if (!isLine(line) || (w.lines.get(line).a != station && w.lines.get(line).b != station)) {
                return NONE;
            }
            station = w.lines.get(line).a + w.lines.get(line).b - station;
        }
        past.add(w.copy());
        if (past.size() > 8) {
            past.remove(0);
        }
        String message = w.paper;
        for (int line : way) {
            message = sendForGood(line, message);
        }
        w.came = message;
        w.creep += value(message) - value(w.paper);
        w.sent++;
        return message.length();
    }

    private String sendForGood(int number, String message) {
        Line line = w.lines.get(number);
        String wire = onWire(w.rules.get(line.kind), line.frost, message);
        for (int i = 0; i < wire.length(); i++) {
            if (line.loses(wire.charAt(i), line.frost)) {
                Entry entry = new Entry(number, wire.charAt(i) - '0', w.day, i);
                w.lost = with(w.lost, entry);
                if (w.book.size() < 200) {
                    w.book = with(w.book, entry);
                }
            }
        }
        return byLine(line, line.frost, message);
    }

    int day() {
        if (w.day == 9999) {
            return NONE;
        }
        w.day++;
        past.clear();
        int frozen = 0;
        for (int i = 0; i < w.lines.size(); i++) {
            int odds = w.lines.get(i).odds;
            boolean frost = false;
            if (odds > 0) {
                w.state = 1664525 * w.state + 1013904223;
                long high = (w.state & 0xFFFFFFFFL) / 256;
                frost = high % 1000 < odds;
            }
            Line l = w.lines.get(i);
            w.lines = replaced(w.lines, i,
                    new Line(l.a, l.b, l.kind, l.loses, l.freezes, l.odds, frost));
            frozen += frost ? 1 : 0;
        }
        return frozen;
    }

    int of(int line, int what) {
        if (!isLine(line)) {
            return NONE;
        }
        Line l = w.lines.get(line);
        if (in(what, 0, 6)) {
            return new int[] {l.a, l.b, l.kind, l.loses, l.freezes, l.odds, l.frost ? 1 : 0}[what];
        }
        if (!in(what, 10, 19)) {
            return NONE;
        }
        return (int) w.lost.stream().filter(e -> e.line == line && e.digit == what - 10).count();
    }

    int book(int i, int what) {
        if (!in(i, 0, w.book.size() - 1) || !in(what, 0, 3)) {
            return NONE;
        }
        Entry entry = w.book.get(i);
        return new int[] {entry.line, entry.digit, entry.day, entry.place}[what];
    }

    long creep() {
        return w.creep;
    }

    int comes(int line, int frost, int i) {
        if (!isLine(line) || !in(frost, 0, 1)) {
            return NONE;
        }
        return lengthOrDigit(byLine(w.lines.get(line), frost == 1, w.paper), i);
    }

    /** All messages of so many digits, in rising order. */
    private static List<String> messages(int length) {
        List<String> all = List.of("");
        for (int i = 0; i < length; i++) {
            List<String> longer = new ArrayList<>();
            for (String message : all) {
                for (int digit = 0; digit < 10; digit++) {
                    longer.add(message + digit);
                }
            }
            all = longer;
        }
        return all;
    }

    private List<String> sources(int line, int frost, int longest, String wanted) {
        List<String> sources = new ArrayList<>();
        for (int length = 0; length <= longest; length++) {
            for (String message : messages(length)) {
                if (byLine(w.lines.get(line), frost == 1, message).equals(wanted)) {
                    sources.add(message);
                }
            }
        }
        return sources;
    }

    int meant(int line, int frost, int n, int what) {
        if (!isLine(line) || !in(frost, 0, 1) || !in(n, 0, 4)) {
            return NONE;
        }
        List<String> sources = sources(line, frost, n, w.seen);
        if (what == 0) {
            return sources.size();
        }
        if (sources.isEmpty()) {
            return NONE;
        }
        return what == 1 ? sources.get(0).length() : digit(sources.get(0), what - 10L);
    }

    int twin(int line, int frost, int what) {
        if (!isLine(line) || !in(frost, 0, 1)) {
            return NONE;
        }
        List<String> twins = sources(line, frost, 4, byLine(w.lines.get(line), frost == 1, w.paper));
        twins.remove(w.paper);
        if (twins.isEmpty()) {
            return NONE;
        }
        return what == 0 ? twins.get(0).length() : digit(twins.get(0), what - 10L);
    }

    int code(int line, int k, int what) {
        if (!isLine(line) || !in(k, 1, 20)) {
            return NONE;
        }
        for (int m = 1; m <= 3; m++) {
            List<String> taken = new ArrayList<>();
            Set<String> known = new HashSet<>();
            for (String message : messages(m)) {
                List<String> both = List.of(byLine(w.lines.get(line), true, message),
                        byLine(w.lines.get(line), false, message));
                if (both.stream().noneMatch(known::contains)) {
                    taken.add(message);
                    known.addAll(both);
                }
            }
            if (taken.size() >= k) {
                return what == 0 ? m : in(what, 10, 9 + k) ? Integer.parseInt(taken.get(what - 10)) : NONE;
            }
        }
        return NONE;
    }

    private record Way(List<Integer> lines, int lost) {
    }

    int best(int from, int to, int what) {
        if (!in(from, 0, 7) || !in(to, 0, 7) || from == to) {
            return NONE;
        }
        List<Way> ways = new ArrayList<>();
        addWays(ways, List.of(from), List.of(), to, w.paper, 0);
        Way best = null;
        for (Way way : ways) {
            if (best == null || Arrays.compare(key(way), key(best)) < 0) {
                best = way;
            }
        }
        if (best == null) {
            return NONE;
        }
        if (what == 0) {
            return best.lost;
        }
        int lines = best.lines.size();
        return what == 1 ? lines : in(what, 10, 9 + lines) ? best.lines.get(what - 10) : NONE;
    }

    private static int[] key(Way way) {
        int[] key = new int[2 + way.lines.size()];
        key[0] = way.lost;
        key[1] = way.lines.size();
        for (int i = 0; i < way.lines.size(); i++) {
            key[2 + i] = way.lines.get(i);
        }
        return key;
    }

    private void addWays(List<Way> ways, List<Integer> been, List<Integer> lines, int to,
            String message, int lost) {
        int station = been.get(been.size() - 1);
        if (station == to) {
            ways.add(new Way(lines, lost));
            return;
        }
        for (int i = w.lines.size() - 1; i >= 0; i--) {
            Line line = w.lines.get(i);
            int next = line.a + line.b - station;
            if ((line.a == station || line.b == station) && !been.contains(next)) {
                String wire = onWire(w.rules.get(line.kind), line.frost, message);
                String came = byLine(line, line.frost, message);
                addWays(ways, with(been, next), with(lines, i), to, came,
                        lost + wire.length() - came.length());
            }
        }
    }

    int clerks() {
        int kinds = 0;
        for (int i = 0; i < 4; i++) {
            kinds += onWire(w.rules.get(i), false, w.paper).equals(w.seen) ? 1 << i : 0;
        }
        return kinds;
    }

    int look(int line) {
        if (!isLine(line) || w.looks.size() == 20) {
            return NONE;
        }
        w.looks = with(w.looks, new Look(line, w.paper, w.seen));
        return w.looks.size();
    }

    int cure(int line, int what) {
        if (!isLine(line) || !in(what, 0, 2)) {
            return NONE;
        }
        List<Integer> sets = new ArrayList<>();
        for (int set = 0; set < 1024; set++) {
            String kept = "[^x]";
            for (int digit = 0; digit < 10; digit++) {
                kept += (set & (1 << digit)) != 0 ? "|" + digit : "";
            }
            String lost = kept.length() == 4 ? "x" : kept.substring(5);
            if (w.looks.stream().allMatch(l -> l.line != line || l.paper.replaceAll(lost, "").equals(l.seen))) {
                sets.add(set);
            }
        }
        if (what == 0) {
            return sets.size();
        }
        return sets.isEmpty() ? NONE : what == 1 ? sets.get(0) : sets.get(sets.size() - 1);
    }

    boolean undo() {
        if (past.isEmpty()) {
            return false;
        }
        World before = past.remove(past.size() - 1);
        w.came = before.came;
        w.book = before.book;
        w.lost = before.lost;
        w.creep = before.creep;
        w.sent = before.sent;
        return true;
    }

    boolean image(boolean taken) {
        if (taken) {
            image = w.copy();
            return true;
        }
        if (image == null) {
            return false;
        }
        w = image.copy();
        past.clear();
        return true;
    }

    int tells(int what) {
        if (in(what, 10, 13)) {
            return w.rules.get(what - 10).size();
        }
        int[] all = {w.lines.size(), w.day, w.book.size(), w.sent, w.state, w.looks.size(), past.size()};
        return in(what, 0, 6) ? all[what] : NONE;
    }
}
