/**
 * A telegraph whose lines lose digits. The document's promises are the words of this class:
 * what stands in capitals there (PAPER, SEEN, CAME, THE BOOK ..) bears the same names here.
 *
 * <p>All rows are made in constructors and used again, so that a call makes no objects (but for
 * the first image, which makes one world).
 */
public final class LostSevens {
    public static final int NONE = -1;

    private static final int STATIONS = 8;
    private static final int MOST_LINES = 12;
    private static final int KINDS = 4;
    private static final int DIGITS = 10;
    private static final int ALL_DIGITS = 1023;
    private static final int MOST_ODDS = 1000;
    private static final int LAST_DAY = 9999;

    private static final int PAPER_LENGTH = 12;
    private static final int WIRE_LENGTH = 36;
    private static final int VALUE_LENGTH = 9;
    private static final int NO_NEIGHBOUR = 10;

    private static final int BOOK_LINES = 200;
    private static final int BOOK_COLUMNS = 4;
    private static final int MOST_LOOKS = 20;
    private static final int MOST_UNDONE = 8;
    private static final int SEND_LINES = 4;
    private static final int MEANT_LENGTH = 4;
    private static final int CODE_LENGTH = 3;
    private static final int MOST_THINGS = 20;
    /** From this number on a what asks for one of a row. */
    private static final int ROW = 10;

    private static final int TAPE_LENGTH = 400;
    private static final int MOST_RULES = 16;
    private static final int NUMBER_LENGTH = 4;
    private static final int MOST_OPEN = 8;
    /**
     * Eight open brackets, with an or and an and waiting on each of nine levels and three signs of
     * a comparison: 29 tokens wait at most, and no more values than that.
     */
    private static final int STACK_LENGTH = 32;

    private static final int CANT_STAND = 1;
    private static final int WRONG_NUMBER = 2;
    private static final int TOO_MANY = 3;

    /** Tokens lie above all numbers, so that a step of a rule is a number's value or a token. */
    private static final int END = 10000;
    private static final int BAD = 10001;
    private static final int NUMBER = 10002;
    private static final int WORD = 10100;
    private static final int TO = WORD;
    private static final int NOTHING = WORD + 1;
    private static final int WHEN = WORD + 2;
    private static final int OR = WORD + 3;
    private static final int AND = WORD + 4;
    private static final int NOT = WORD + 5;
    private static final int FIRST_KNOWN = WORD + 6;
    private static final int KNOWN = 6;
    private static final int SIGN = 10200;
    private static final int SEMICOLON = SIGN + ';';
    private static final int PLUS = SIGN + '+';
    private static final int MINUS = SIGN + '-';
    private static final int TIMES = SIGN + '*';
    private static final int PART = SIGN + '/';
    private static final int OPEN = SIGN + '(';
    private static final int CLOSE = SIGN + ')';
    private static final int LESS = SIGN + '<';
    private static final int EQUAL = SIGN + '=';
    private static final int MORE = SIGN + '>';

    private static final String SIGNS = ";+-*/()<=>";
    /** The keywords in the order of their tokens, each filled up to one width. */
    private static final String WORDS =
            "to    none  when  or    and   not   day   frost place lengthleft  right ";
    private static final int WORD_COUNT = 12;
    private static final int WORD_WIDTH = 6;

    /** How strongly a token binds; a ( binds nothing, so that it waits for its ). */
    private static final int ENDS_CLAIMS = 1;
    private static final int COMPARES = 5;

    /** What a condition awaits next. */
    private static final int CLAIM = 0;
    private static final int OPERAND = 1;
    private static final int DIVISOR = 2;
    private static final int BEHIND_LEFT = 3;
    private static final int BEHIND_RIGHT = 4;
    private static final int BEHIND_CLOSE = 5;
    private static final int NO_MORE = 6;

    private static final int KNOWN_DAY = 0;
    private static final int KNOWN_FROST = 1;
    private static final int KNOWN_PLACE = 2;
    private static final int KNOWN_LENGTH = 3;
    private static final int KNOWN_LEFT = 4;
    private static final int KNOWN_RIGHT = 5;

    private final World world = new World();
    private final Past past = new Past();
    private final Tape tape = new Tape();
    private final Parser parser = new Parser(tape);
    private final Clerk clerk = new Clerk();
    private final Seeker seeker = new Seeker(clerk);
    private final Coder coder = new Coder(clerk);
    private final Router router = new Router(clerk);
    private final Message thought = new Message();
    private final int[] route = new int[SEND_LINES];
    /** Null until an image is taken. */
    private World kept = null;

    public LostSevens() {
    }

    public int state(int v) {
        int was = world.draws;
        world.draws = v;
        return was;
    }

    public int line(int a, int b, int kind, int loses, int freezes, int odds) {
        boolean canBe = isStation(a) && isStation(b) && a != b && isKind(kind)
                && isSet(loses) && isSet(freezes) && isOdds(odds);
        if (!canBe || world.lineCount >= MOST_LINES) {
            return NONE;
        }
        Line made = world.lines[world.lineCount];
        made.first = a;
        made.second = b;
        made.kind = kind;
        made.loses = loses;
        made.freezes = freezes;
        made.odds = odds;
        made.frost = 0;
        world.lineCount++;
        past.forget();
        return world.lineCount - 1;
    }

    public boolean set(int line, int what, int v) {
        if (!world.hasLine(line) || !canBeSet(what, v)) {
            return false;
        }
        Line changed = world.lines[line];
        switch (what) {
            case 0: changed.loses = v; break;
            case 1: changed.freezes = v; break;
            case 2: changed.odds = v; break;
            case 3: changed.kind = v; break;
            default: changed.frost = v; break;
        }
        past.forget();
        return true;
    }

    public int write(int what, int digit) {
        if ((what != 0 && what != 1) || !isDigit(digit)) {
            return NONE;
        }
        Message written = messageOf(what);
        if (written.length >= PAPER_LENGTH) {
            return NONE;
        }
        written.append(digit);
        return written.length;
    }

    public int blank(int what) {
        if (what != 0 && what != 1) {
            return NONE;
        }
        Message blanked = messageOf(what);
        int had = blanked.length;
        blanked.clear();
        return had;
    }

    public int read(int what, int i) {
        return what < 0 || what > 2 ? NONE : lengthOrDigit(messageOf(what), i);
    }

    public int feed(int a, int b, int c, int d, int e) {
        if (tape.length + 20 > TAPE_LENGTH) {
            return NONE;
        }
        tape.append(a);
        tape.append(b);
        tape.append(c);
        tape.append(d);
        tape.append(e);
        return tape.length;
    }

    public boolean end(int n) {
        if (n < 0 || n > tape.length) {
            return false;
        }
        tape.length = n;
        return true;
    }

    public int text(int kind) {
        parser.clearFault();
        boolean fine = isKind(kind) && parser.readTape();
        tape.length = 0;
        if (!fine) {
            return NONE;
        }
        world.rules[kind] = parser.exchange(world.rules[kind]);
        return world.rules[kind].count;
    }

    public int fault(int what) {
        switch (what) {
            case 0: return parser.wrong;
            case 1: return parser.wrongPlace;
            default: return NONE;
        }
    }

    public int send(int from, int a, int b, int c, int d) {
        route[0] = a;
        route[1] = b;
        route[2] = c;
        route[3] = d;
        int lines = linesOfRoute(from);
        if (lines == NONE) {
            return NONE;
        }
        past.remember(world);
        Message message = world.came;
        message.copyFrom(world.paper);
        for (int i = 0; i < lines; i++) {
            carryForGood(route[i], message);
        }
        world.creeping += message.value() - world.paper.value();
        world.sent++;
        return message.length;
    }

    public int day() {
        if (world.today >= LAST_DAY) {
            return NONE;
        }
        world.today++;
        past.forget();
        int frozen = 0;
        for (int i = 0; i < world.lineCount; i++) {
            Line line = world.lines[i];
            line.frost = line.odds > 0 && world.drawThousand() < line.odds ? 1 : 0;
            frozen += line.frost;
        }
        return frozen;
    }

    public int of(int line, int what) {
        if (!world.hasLine(line)) {
            return NONE;
        }
        Line asked = world.lines[line];
        switch (what) {
            case 0: return asked.first;
            case 1: return asked.second;
            case 2: return asked.kind;
            case 3: return asked.loses;
            case 4: return asked.freezes;
            case 5: return asked.odds;
            case 6: return asked.frost;
            default: return what >= ROW && what < ROW + DIGITS
                    ? world.lostBy[line * DIGITS + what - ROW] : NONE;
        }
    }

    public int book(int i, int what) {
        if (i < 0 || i >= world.bookLines || what < 0 || what >= BOOK_COLUMNS) {
            return NONE;
        }
        return world.pages[i * BOOK_COLUMNS + what];
    }

    public long creep() {
        return world.creeping;
    }

    public int comes(int line, int frost, int i) {
        if (!world.hasLine(line) || !isFlag(frost)) {
            return NONE;
        }
        clerk.carry(world, world.lines[line], frost, world.paper, thought);
        return lengthOrDigit(thought, i);
    }

    public int meant(int line, int frost, int n, int what) {
        if (!world.hasLine(line) || !isFlag(frost) || n < 0 || n > MEANT_LENGTH) {
            return NONE;
        }
        seeker.wantSeen(world);
        seeker.seek(world, world.lines[line], frost, n);
        if (what == 0) {
            return seeker.found;
        }
        if (seeker.found == 0) {
            return NONE;
        }
        return what == 1 ? seeker.first.length : digitOfRow(seeker.first, what);
    }

    public int twin(int line, int frost, int what) {
        if (!world.hasLine(line) || !isFlag(frost)) {
            return NONE;
        }
        seeker.wantTwin(world, world.lines[line], frost);
        seeker.seek(world, world.lines[line], frost, MEANT_LENGTH);
        if (seeker.found == 0) {
            return NONE;
        }
        return what == 0 ? seeker.first.length : digitOfRow(seeker.first, what);
    }

    public int code(int line, int k, int what) {
        if (!world.hasLine(line) || k < 1 || k > MOST_THINGS) {
            return NONE;
        }
        boolean asksFirst = what == 0;
        boolean asksRow = what >= ROW && what - ROW < k;
        if (!asksFirst && !asksRow) {
            return NONE;
        }
        int length = coder.findLength(world, world.lines[line], k);
        return length == NONE || asksFirst ? length : coder.taken[what - ROW];
    }

    public int best(int from, int to, int what) {
        if (!isStation(from) || !isStation(to) || from == to) {
            return NONE;
        }
        router.search(world, from, to);
        if (router.fewestLines == NONE) {
            return NONE;
        }
        switch (what) {
            case 0: return router.fewestLost;
            case 1: return router.fewestLines;
            default: return what >= ROW && what - ROW < router.fewestLines
                    ? router.bestWay[what - ROW] : NONE;
        }
    }

    public int clerks() {
        int kinds = 0;
        for (int i = 0; i < KINDS; i++) {
            clerk.translate(world.rules[i], world.today, 0, world.paper);
            if (clerk.wire.sameAs(world.seen)) {
                kinds |= 1 << i;
            }
        }
        return kinds;
    }

    public int look(int line) {
        if (!world.hasLine(line) || world.lookCount >= MOST_LOOKS) {
            return NONE;
        }
        world.keepLook(line);
        return world.lookCount;
    }

    public int cure(int line, int what) {
        if (!world.hasLine(line) || what < 0 || what > 2) {
            return NONE;
        }
        int lost = 0;
        int held = 0;
        for (int i = 0; i < world.lookCount; i++) {
            if (world.lookLine[i] == line) {
                lost |= world.lookLost[i];
                held |= world.lookHeld[i];
            }
        }
        boolean possible = (lost & held) == 0;
        switch (what) {
            case 0: return possible ? 1 << (DIGITS - Integer.bitCount(lost | held)) : 0;
            case 1: return possible ? lost : NONE;
            default: return possible ? ALL_DIGITS & ~held : NONE;
        }
    }

    public boolean undo() {
        return past.goBack(world);
    }

    public boolean image(boolean taken) {
        if (taken) {
            if (kept == null) {
                kept = new World();
            }
            kept.copyFrom(world);
            return true;
        }
        if (kept == null) {
            return false;
        }
        world.copyFrom(kept);
        past.forget();
        return true;
    }

    public int tells(int what) {
        switch (what) {
            case 0: return world.lineCount;
            case 1: return world.today;
            case 2: return world.bookLines;
            case 3: return world.sent;
            case 4: return world.draws;
            case 5: return world.lookCount;
            case 6: return past.count;
            default: return what >= ROW && what < ROW + KINDS
                    ? world.rules[what - ROW].count : NONE;
        }
    }

    private static boolean isStation(int v) {
        return v >= 0 && v < STATIONS;
    }

    private static boolean isKind(int v) {
        return v >= 0 && v < KINDS;
    }

    private static boolean isSet(int v) {
        return v >= 0 && v <= ALL_DIGITS;
    }

    private static boolean isOdds(int v) {
        return v >= 0 && v <= MOST_ODDS;
    }

    private static boolean isFlag(int v) {
        return v == 0 || v == 1;
    }

    private static boolean isDigit(int v) {
        return v >= 0 && v < DIGITS;
    }

    private static boolean canBeSet(int what, int v) {
        switch (what) {
            case 0: return isSet(v);
            case 1: return isSet(v);
            case 2: return isOdds(v);
            case 3: return isKind(v);
            case 4: return isFlag(v);
            default: return false;
        }
    }

    private Message messageOf(int what) {
        if (what == 0) {
            return world.paper;
        }
        return what == 1 ? world.seen : world.came;
    }

    private static int lengthOrDigit(Message message, int i) {
        return i == NONE ? message.length : message.digitAt(i, NONE);
    }

    private static int digitOfRow(Message message, int what) {
        return what < ROW ? NONE : message.digitAt(what - ROW, NONE);
    }

    /** How many lines the route has; NONE if it can't be gone from there. */
    private int linesOfRoute(int from) {
        int station = isStation(from) ? from : NONE;
        int count = 0;
        while (count < SEND_LINES && route[count] != NONE && station != NONE) {
            int line = route[count];
            station = world.hasLine(line) ? world.lines[line].otherEnd(station) : NONE;
            count++;
        }
        return station == NONE || count == 0 ? NONE : count;
    }

    private void carryForGood(int number, Message message) {
        Line line = world.lines[number];
        clerk.carry(world, line, line.frost, message, message);
        int lost = line.lostDigits(line.frost);
        for (int i = 0; i < clerk.wire.length; i++) {
            int digit = clerk.wire.digits[i];
            if ((lost >> digit & 1) == 1) {
                world.keepLoss(number, digit, i);
            }
        }
    }

    /** A row of digits; the paper's own limit of twelve is kept by write(). */
    static final class Message {
        final int[] digits = new int[WIRE_LENGTH];
        int length = 0;

        void clear() {
            length = 0;
        }

        /** What goes beyond the wire's limit is not sent. */
        void append(int digit) {
            if (length < digits.length) {
                digits[length] = digit;
                length++;
            }
        }

        int digitAt(int i, int otherwise) {
            return i >= 0 && i < length ? digits[i] : otherwise;
        }

        void copyFrom(Message other) {
            System.arraycopy(other.digits, 0, digits, 0, WIRE_LENGTH);
            length = other.length;
        }

        boolean sameAs(Message other) {
            if (length != other.length) {
                return false;
            }
            for (int i = 0; i < length; i++) {
                if (digits[i] != other.digits[i]) {
                    return false;
                }
            }
            return true;
        }

        long value() {
            long value = 0;
            for (int i = Math.max(0, length - VALUE_LENGTH); i < length; i++) {
                value = value * 10 + digits[i];
            }
            return value;
        }

        int digitSet() {
            int set = 0;
            for (int i = 0; i < length; i++) {
                set |= 1 << digits[i];
            }
            return set;
        }

        /** Takes over those digits of another message (or of itself) that are not lost. */
        int keepFrom(Message other, int lost) {
            int all = other.length;
            length = 0;
            for (int i = 0; i < all; i++) {
                int digit = other.digits[i];
                if ((lost >> digit & 1) == 0) {
                    append(digit);
                }
            }
            return all - length;
        }
    }

    /** A line between two stations. */
    static final class Line {
        int first = 0;
        int second = 0;
        int kind = 0;
        int loses = 0;
        int freezes = 0;
        int odds = 0;
        int frost = 0;

        int otherEnd(int station) {
            if (station == first) {
                return second;
            }
            return station == second ? first : NONE;
        }

        int lostDigits(int inFrost) {
            return inFrost == 1 ? loses | freezes : loses;
        }

        void copyFrom(Line other) {
            first = other.first;
            second = other.second;
            kind = other.kind;
            loses = other.loses;
            freezes = other.freezes;
            odds = other.odds;
            frost = other.frost;
        }
    }

    /**
     * The rules of a kind. Conditions lie in one row of steps, operands ahead of what joins them,
     * so that they are worked out without a tree.
     */
    static final class Rules {
        final int[] digit = new int[MOST_RULES];
        final int[] size = new int[MOST_RULES];
        final int[] spelled = new int[MOST_RULES * NUMBER_LENGTH];
        final int[] begins = new int[MOST_RULES];
        final int[] ends = new int[MOST_RULES];
        final int[] steps = new int[TAPE_LENGTH];
        int count = 0;
        int stepCount = 0;

        void clear() {
            count = 0;
            stepCount = 0;
        }

        /** A new rule; what is spelled or stepped then belongs to it. */
        void begin(int forDigit) {
            if (count < MOST_RULES) {
                digit[count] = forDigit;
                size[count] = 0;
                begins[count] = stepCount;
                ends[count] = stepCount;
                count++;
            }
        }

        void spell(int numeral) {
            int last = count - 1;
            if (last >= 0 && size[last] < NUMBER_LENGTH) {
                spelled[last * NUMBER_LENGTH + size[last]] = numeral;
                size[last]++;
            }
        }

        void addStep(int step) {
            int last = count - 1;
            if (last >= 0 && stepCount < TAPE_LENGTH) {
                steps[stepCount] = step;
                stepCount++;
                ends[last] = stepCount;
            }
        }

        void copyFrom(Rules other) {
            System.arraycopy(other.digit, 0, digit, 0, MOST_RULES);
            System.arraycopy(other.size, 0, size, 0, MOST_RULES);
            System.arraycopy(other.spelled, 0, spelled, 0, MOST_RULES * NUMBER_LENGTH);
            System.arraycopy(other.begins, 0, begins, 0, MOST_RULES);
            System.arraycopy(other.ends, 0, ends, 0, MOST_RULES);
            System.arraycopy(other.steps, 0, steps, 0, TAPE_LENGTH);
            count = other.count;
            stepCount = other.stepCount;
        }
    }

    /** All that an image holds. */
    static final class World {
        final Line[] lines = new Line[MOST_LINES];
        final Rules[] rules = new Rules[KINDS];
        final Message paper = new Message();
        final Message seen = new Message();
        final Message came = new Message();
        final int[] lostBy = new int[MOST_LINES * DIGITS];
        final int[] pages = new int[BOOK_LINES * BOOK_COLUMNS];
        final int[] lookLine = new int[MOST_LOOKS];
        final int[] lookLost = new int[MOST_LOOKS];
        final int[] lookHeld = new int[MOST_LOOKS];
        int lineCount = 0;
        int bookLines = 0;
        int lookCount = 0;
        int today = 0;
        int draws = 0;
        int sent = 0;
        long creeping = 0;

        World() {
            for (int i = 0; i < MOST_LINES; i++) {
                lines[i] = new Line();
            }
            for (int i = 0; i < KINDS; i++) {
                rules[i] = new Rules();
            }
        }

        boolean hasLine(int number) {
            return number >= 0 && number < lineCount;
        }

        int drawThousand() {
            draws = draws * 1664525 + 1013904223;
            return (draws >>> 8) % 1000;
        }

        void keepLoss(int line, int digit, int place) {
            lostBy[line * DIGITS + digit]++;
            if (bookLines < BOOK_LINES) {
                int at = bookLines * BOOK_COLUMNS;
                pages[at] = line;
                pages[at + 1] = digit;
                pages[at + 2] = today;
                pages[at + 3] = place;
                bookLines++;
            }
        }

        /**
         * A look says of each digit of the paper whether it is lost: it is held if it was seen.
         * A look that no set explains makes all digits both, so that no set is left.
         */
        void keepLook(int line) {
            int held = seen.digitSet();
            int lost = paper.digitSet() & ~held;
            boolean explained = showsWithout(lost);
            lookLine[lookCount] = line;
            lookLost[lookCount] = explained ? lost : ALL_DIGITS;
            lookHeld[lookCount] = explained ? held : ALL_DIGITS;
            lookCount++;
        }

        private boolean showsWithout(int lost) {
            int met = 0;
            for (int i = 0; i < paper.length; i++) {
                int digit = paper.digits[i];
                if ((lost >> digit & 1) == 0) {
                    if (seen.digitAt(met, NONE) != digit) {
                        return false;
                    }
                    met++;
                }
            }
            return met == seen.length;
        }

        void copyFrom(World other) {
            for (int i = 0; i < MOST_LINES; i++) {
                lines[i].copyFrom(other.lines[i]);
            }
            for (int i = 0; i < KINDS; i++) {
                rules[i].copyFrom(other.rules[i]);
            }
            paper.copyFrom(other.paper);
            seen.copyFrom(other.seen);
            came.copyFrom(other.came);
            System.arraycopy(other.lostBy, 0, lostBy, 0, MOST_LINES * DIGITS);
            System.arraycopy(other.pages, 0, pages, 0, BOOK_LINES * BOOK_COLUMNS);
            System.arraycopy(other.lookLine, 0, lookLine, 0, MOST_LOOKS);
            System.arraycopy(other.lookLost, 0, lookLost, 0, MOST_LOOKS);
            System.arraycopy(other.lookHeld, 0, lookHeld, 0, MOST_LOOKS);
            lineCount = other.lineCount;
            bookLines = other.bookLines;
            lookCount = other.lookCount;
            today = other.today;
            draws = other.draws;
            sent = other.sent;
            creeping = other.creeping;
        }
    }

    /** What was before each of the latest sendings, in a ring. */
    static final class Past {
        private final Message[] came = new Message[MOST_UNDONE];
        private final int[][] lostBy = new int[MOST_UNDONE][MOST_LINES * DIGITS];
        private final int[] bookLines = new int[MOST_UNDONE];
        private final int[] sent = new int[MOST_UNDONE];
        private final long[] creeping = new long[MOST_UNDONE];
        private int next = 0;
        int count = 0;

        Past() {
            for (int i = 0; i < MOST_UNDONE; i++) {
                came[i] = new Message();
            }
        }

        void forget() {
            count = 0;
        }

        void remember(World world) {
            came[next].copyFrom(world.came);
            System.arraycopy(world.lostBy, 0, lostBy[next], 0, MOST_LINES * DIGITS);
            bookLines[next] = world.bookLines;
            sent[next] = world.sent;
            creeping[next] = world.creeping;
            next = (next + 1) % MOST_UNDONE;
            count = Math.min(count + 1, MOST_UNDONE);
        }

        boolean goBack(World world) {
            if (count == 0) {
                return false;
            }
            count--;
            next = (next + MOST_UNDONE - 1) % MOST_UNDONE;
            world.came.copyFrom(came[next]);
            System.arraycopy(lostBy[next], 0, world.lostBy, 0, MOST_LINES * DIGITS);
            world.bookLines = bookLines[next];
            world.sent = sent[next];
            world.creeping = creeping[next];
            return true;
        }
    }

    /** The bytes that were fed, and their tokens one by one. */
    static final class Tape {
        private final int[] bytes = new int[TAPE_LENGTH];
        int length = 0;
        int place = 0;
        int size = 0;
        int token = END;

        void append(int four) {
            for (int shift = 24; shift >= 0 && length < TAPE_LENGTH; shift -= 8) {
                bytes[length] = four >>> shift & 255;
                length++;
            }
        }

        void rewind() {
            place = 0;
            size = 0;
            advance();
        }

        void advance() {
            int at = place + size;
            while (at < length && isBlank(bytes[at])) {
                at++;
            }
            place = at;
            if (at >= length) {
                size = 0;
                token = END;
            } else if (isLetter(bytes[at])) {
                size = lettersFrom(at) - at;
                token = keywordHere();
            } else if (isNumeral(bytes[at])) {
                size = numeralsFrom(at) - at;
                token = size <= NUMBER_LENGTH ? NUMBER : BAD;
            } else {
                size = 1;
                token = SIGNS.indexOf((char) bytes[at]) >= 0 ? SIGN + bytes[at] : BAD;
            }
        }

        int numeralHere(int i) {
            int at = place + i;
            return i >= 0 && i < size && at < length ? bytes[at] - '0' : 0;
        }

        int numberHere() {
            int number = 0;
            for (int i = 0; i < size; i++) {
                number = number * 10 + bytes[place + i] - '0';
            }
            return number;
        }

        private int lettersFrom(int from) {
            int at = from;
            while (at < length && isLetter(bytes[at])) {
                at++;
            }
            return at;
        }

        private int numeralsFrom(int from) {
            int at = from;
            while (at < length && isNumeral(bytes[at])) {
                at++;
            }
            return at;
        }

        private int keywordHere() {
            if (size <= WORD_WIDTH) {
                for (int word = 0; word < WORD_COUNT; word++) {
                    if (spells(word)) {
                        return WORD + word;
                    }
                }
            }
            return BAD;
        }

        private boolean spells(int word) {
            for (int i = 0; i < WORD_WIDTH; i++) {
                int here = i < size ? bytes[place + i] : ' ';
                if (here != WORDS.charAt(word * WORD_WIDTH + i)) {
                    return false;
                }
            }
            return true;
        }

        private static boolean isBlank(int b) {
            return b == 32 || b == 10;
        }

        private static boolean isLetter(int b) {
            return (b >= 'a' && b <= 'z') || (b >= 'A' && b <= 'Z');
        }

        private static boolean isNumeral(int b) {
            return b >= '0' && b <= '9';
        }
    }

    /**
     * Reads the tape as rules. Each method stands before what it reads, goes behind it and says
     * true, or tells the fault and says false; the first fault told is the first by its place.
     * A condition is read without recursion: what joins two operands waits until both are read.
     */
    static final class Parser {
        private final Tape tape;
        private final int[] waiting = new int[STACK_LENGTH];
        private int waitingCount = 0;
        /** How many brackets and nots wait. */
        private int open = 0;
        private int awaited = CLAIM;
        private boolean compared = false;
        private Rules spare = new Rules();
        int wrong = 0;
        int wrongPlace = NONE;

        Parser(Tape tape) {
            this.tape = tape;
        }

        void clearFault() {
            wrong = 0;
            wrongPlace = NONE;
        }

        boolean readTape() {
            spare.clear();
            tape.rewind();
            boolean fine = true;
            for (int i = 0; fine && i < TAPE_LENGTH && tape.token != END; i++) {
                fine = passRule();
            }
            return fine;
        }

        /** Gives out the rules that were read, for others to read into next. */
        Rules exchange(Rules old) {
            Rules latest = spare;
            spare = old;
            return latest;
        }

        private boolean refuse(int why) {
            wrong = why;
            wrongPlace = tape.place;
            return false;
        }

        private boolean pass(int token) {
            if (tape.token != token) {
                return refuse(CANT_STAND);
            }
            tape.advance();
            return true;
        }

        private boolean passRule() {
            if (tape.token != NUMBER) {
                return refuse(CANT_STAND);
            }
            if (tape.size > 1) {
                return refuse(WRONG_NUMBER);
            }
            int digit = tape.numberHere();
            tape.advance();
            if (tape.token == TO && spare.count >= MOST_RULES) {
                return refuse(TOO_MANY);
            }
            spare.begin(digit);
            return pass(TO) && passReplacement()
                    && (tape.token != WHEN || passCondition()) && pass(SEMICOLON);
        }

        private boolean passReplacement() {
            if (tape.token == NUMBER) {
                for (int i = 0; i < tape.size; i++) {
                    spare.spell(tape.numeralHere(i));
                }
            } else if (tape.token != NOTHING) {
                return refuse(CANT_STAND);
            }
            tape.advance();
            return true;
        }

        private boolean passCondition() {
            waitingCount = 0;
            open = 0;
            awaited = CLAIM;
            boolean fine = true;
            for (int i = 0; fine && i < TAPE_LENGTH && awaited != NO_MORE; i++) {
                tape.advance();
                fine = takeToken();
            }
            return fine;
        }

        private boolean takeToken() {
            switch (awaited) {
                case CLAIM: return takeClaim();
                case OPERAND: return takeOperand();
                case DIVISOR: return takeDivisor();
                default: return takeJoint();
            }
        }

        /** A bracket, a not, or the first operand of a comparison. */
        private boolean takeClaim() {
            compared = false;
            if (tape.token != NOT && tape.token != OPEN) {
                return takeOperand();
            }
            if (open >= MOST_OPEN) {
                return refuse(TOO_MANY);
            }
            open++;
            return await(tape.token, CLAIM);
        }

        private boolean takeOperand() {
            boolean known = tape.token >= FIRST_KNOWN && tape.token < FIRST_KNOWN + KNOWN;
            if (!known && tape.token != NUMBER) {
                return refuse(CANT_STAND);
            }
            spare.addStep(known ? tape.token : tape.numberHere());
            awaited = compared ? BEHIND_RIGHT : BEHIND_LEFT;
            return true;
        }

        private boolean takeDivisor() {
            if (tape.token != NUMBER) {
                return refuse(CANT_STAND);
            }
            return tape.numberHere() == 0 ? refuse(WRONG_NUMBER) : takeOperand();
        }

        /** What may stand behind an operand or a bracket's end. */
        private boolean takeJoint() {
            int token = tape.token;
            int strength = strengthOf(token);
            if (token == NOT || !canJoin(strength)) {
                return refuse(CANT_STAND);
            }
            settle(strength);
            if (strength == ENDS_CLAIMS) {
                return takeEnd();
            }
            if (strength == COMPARES) {
                compared = true;
            }
            if (strength < COMPARES) {
                return await(token, CLAIM);
            }
            return await(token, token == PART ? DIVISOR : OPERAND);
        }

        private boolean canJoin(int strength) {
            switch (awaited) {
                case BEHIND_LEFT: return strength >= COMPARES;
                case BEHIND_RIGHT: return strength >= ENDS_CLAIMS && strength != COMPARES;
                default: return strength >= ENDS_CLAIMS && strength < COMPARES;
            }
        }

        /** All that waited is settled but brackets: one must wait for a ), none for a ; . */
        private boolean takeEnd() {
            boolean inBracket = waitingCount > 0;
            if (inBracket != (tape.token == CLOSE)) {
                return refuse(CANT_STAND);
            }
            if (inBracket) {
                waitingCount--;
                open--;
            }
            awaited = inBracket ? BEHIND_CLOSE : NO_MORE;
            return true;
        }

        private boolean await(int token, int next) {
            if (waitingCount < STACK_LENGTH) {
                waiting[waitingCount] = token;
                waitingCount++;
            }
            awaited = next;
            return true;
        }

        /** What binds as strongly or more has its operands now. */
        private void settle(int strength) {
            while (waitingCount > 0 && strengthOf(waiting[waitingCount - 1]) >= strength) {
                waitingCount--;
                int token = waiting[waitingCount];
                if (token == NOT) {
                    open--;
                }
                spare.addStep(token);
            }
        }

        private static int strengthOf(int token) {
            switch (token) {
                case CLOSE: return ENDS_CLAIMS;
                case SEMICOLON: return ENDS_CLAIMS;
                case OR: return ENDS_CLAIMS + 1;
                case AND: return ENDS_CLAIMS + 2;
                case NOT: return ENDS_CLAIMS + 3;
                case LESS: return COMPARES;
                case EQUAL: return COMPARES;
                case MORE: return COMPARES;
                case PLUS: return COMPARES + 1;
                case MINUS: return COMPARES + 1;
                case TIMES: return COMPARES + 2;
                case PART: return COMPARES + 2;
                default: return 0;
            }
        }
    }

    /** Puts messages on the wire by the rules of a kind, and works out what comes. */
    static final class Clerk {
        /** What the latest message was on the wire, before digits were lost. */
        final Message wire = new Message();
        private final int[] stack = new int[STACK_LENGTH];
        private final int[] known = new int[KNOWN];

        /** How many digits are lost; what came may be the same object as the message. */
        int carry(World world, Line line, int frost, Message message, Message came) {
            translate(world.rules[line.kind], world.today, frost, message);
            return came.keepFrom(wire, line.lostDigits(frost));
        }

        void translate(Rules rules, int day, int frost, Message message) {
            wire.clear();
            begin(day, frost);
            for (int i = 0; i < message.length; i++) {
                int rule = ruleAt(rules, message, i);
                if (rule == NONE) {
                    wire.append(message.digits[i]);
                } else {
                    for (int j = 0; j < rules.size[rule]; j++) {
                        wire.append(rules.spelled[rule * NUMBER_LENGTH + j]);
                    }
                }
            }
        }

        void begin(int day, int frost) {
            known[KNOWN_DAY] = day;
            known[KNOWN_FROST] = frost;
        }

        /** The first rule that holds for the digit at a place of a message, or NONE. */
        int ruleAt(Rules rules, Message message, int place) {
            int digit = message.digitAt(place, NONE);
            known[KNOWN_PLACE] = place;
            known[KNOWN_LENGTH] = message.length;
            known[KNOWN_LEFT] = message.digitAt(place - 1, NO_NEIGHBOUR);
            known[KNOWN_RIGHT] = message.digitAt(place + 1, NO_NEIGHBOUR);
            for (int i = 0; i < rules.count; i++) {
                if (rules.digit[i] == digit && holds(rules, i)) {
                    return i;
                }
            }
            return NONE;
        }

        private boolean holds(Rules rules, int rule) {
            int top = 0;
            for (int i = rules.begins[rule]; i < rules.ends[rule]; i++) {
                int step = rules.steps[i];
                if (isOperand(step)) {
                    if (top >= STACK_LENGTH) {
                        return false;
                    }
                    stack[top] = step < END ? step : known[step - FIRST_KNOWN];
                    top++;
                } else if (step == NOT) {
                    if (top < 1) {
                        return false;
                    }
                    stack[top - 1] = 1 - stack[top - 1];
                } else {
                    if (top < 2) {
                        return false;
                    }
                    top--;
                    stack[top - 1] = join(step, stack[top - 1], stack[top]);
                }
            }
            return top == 0 || stack[0] != 0;
        }

        private static boolean isOperand(int step) {
            return step < END || (step >= FIRST_KNOWN && step < FIRST_KNOWN + KNOWN);
        }

        private static int join(int sign, int a, int b) {
            switch (sign) {
                case PLUS: return a + b;
                case MINUS: return a - b;
                case TIMES: return a * b;
                case PART: return b == 0 ? 0 : a / b;
                case LESS: return a < b ? 1 : 0;
                case EQUAL: return a == b ? 1 : 0;
                case MORE: return a > b ? 1 : 0;
                case AND: return a & b;
                default: return a | b;
            }
        }
    }

    /**
     * Seeks short messages of which a wanted one comes. A digit is followed as soon as the one
     * behind it is chosen, so that most beginnings need no going on.
     */
    static final class Seeker {
        private final Clerk clerk;
        private final Message wanted = new Message();
        private final Message avoided = new Message();
        private final Message trial = new Message();
        final Message first = new Message();
        int found = 0;
        private int lost = 0;
        private boolean avoids = false;

        Seeker(Clerk clerk) {
            this.clerk = clerk;
        }

        /** Next all messages are sought of which what was seen would come. */
        void wantSeen(World world) {
            wanted.copyFrom(world.seen);
            avoids = false;
        }

        /** Next one message is sought, not the paper, of which the same would come as of it. */
        void wantTwin(World world, Line line, int frost) {
            clerk.carry(world, line, frost, world.paper, wanted);
            avoided.copyFrom(world.paper);
            avoids = true;
        }

        void seek(World world, Line line, int frost, int longest) {
            Rules rules = world.rules[line.kind];
            lost = line.lostDigits(frost);
            found = 0;
            clerk.begin(world.today, frost);
            for (int length = 0; length <= longest && !isOver(); length++) {
                trial.length = length;
                if (length == 0) {
                    judge(0);
                } else {
                    chooseAt(rules, 0, 0);
                }
            }
        }

        private boolean isOver() {
            return avoids && found > 0;
        }

        /** Each digit for a place; all ahead of the digit before it is met already. */
        private void chooseAt(Rules rules, int place, int met) {
            for (int digit = 0; digit < DIGITS && !isOver(); digit++) {
                trial.digits[place] = digit;
                int now = place == 0 ? met : follow(rules, place - 1, met);
                if (now != NONE) {
                    goOnFrom(rules, place, now);
                }
            }
        }

        private void goOnFrom(Rules rules, int place, int met) {
            if (place + 1 < trial.length) {
                chooseAt(rules, place + 1, met);
            } else {
                judge(follow(rules, place, met));
            }
        }

        /** How much of the wanted message is met behind the digit at a place; NONE if it differs. */
        private int follow(Rules rules, int place, int met) {
            int rule = clerk.ruleAt(rules, trial, place);
            if (rule == NONE) {
                return meet(trial.digits[place], met);
            }
            int now = met;
            for (int i = 0; i < rules.size[rule] && now != NONE; i++) {
                now = meet(rules.spelled[rule * NUMBER_LENGTH + i], now);
            }
            return now;
        }

        private int meet(int digit, int met) {
            if ((lost >> digit & 1) == 1) {
                return met;
            }
            return wanted.digitAt(met, NONE) == digit ? met + 1 : NONE;
        }

        private void judge(int met) {
            if (met != wanted.length || (avoids && trial.sameAs(avoided))) {
                return;
            }
            if (found == 0) {
                first.copyFrom(trial);
            }
            found++;
        }
    }

    /** Finds messages of one length that are told from one another with frost or without. */
    static final class Coder {
        private final Clerk clerk;
        private final Message trial = new Message();
        private final long[] mild = new long[MOST_THINGS];
        private final long[] cold = new long[MOST_THINGS];
        final int[] taken = new int[MOST_THINGS];

        Coder(Clerk clerk) {
            this.clerk = clerk;
        }

        int findLength(World world, Line line, int things) {
            int all = 1;
            for (int length = 1; length <= CODE_LENGTH; length++) {
                all *= 10;
                if (takes(world, line, length, all, things)) {
                    return length;
                }
            }
            return NONE;
        }

        /** The first things of the greedy row are the same however far it would go on. */
        private boolean takes(World world, Line line, int length, int all, int things) {
            int count = 0;
            for (int number = 0; number < all && count < things; number++) {
                spell(number, length);
                long inMild = whatComes(world, line, 0);
                long inCold = whatComes(world, line, 1);
                if (isNew(inMild, count) && isNew(inCold, count)) {
                    mild[count] = inMild;
                    cold[count] = inCold;
                    taken[count] = number;
                    count++;
                }
            }
            return count == things;
        }

        private void spell(int number, int length) {
            int rest = number;
            trial.length = length;
            for (int i = length - 1; i >= 0; i--) {
                trial.digits[i] = rest % 10;
                rest /= 10;
            }
        }

        /** As a number behind a 1: three digits become twelve at most, so it holds them all. */
        private long whatComes(World world, Line line, int frost) {
            int lost = line.lostDigits(frost);
            clerk.translate(world.rules[line.kind], world.today, frost, trial);
            long packed = 1;
            for (int i = 0; i < clerk.wire.length; i++) {
                int digit = clerk.wire.digits[i];
                if ((lost >> digit & 1) == 0) {
                    packed = packed * 10 + digit;
                }
            }
            return packed;
        }

        private boolean isNew(long packed, int count) {
            for (int i = 0; i < count; i++) {
                if (mild[i] == packed || cold[i] == packed) {
                    return false;
                }
            }
            return true;
        }
    }

    /** Finds the best way between two stations; no way has more lines than stations but one. */
    static final class Router {
        private final Clerk clerk;
        private final Message[] carried = new Message[STATIONS];
        private final int[] way = new int[STATIONS];
        final int[] bestWay = new int[STATIONS];
        int fewestLost = 0;
        int fewestLines = NONE;
        private int goal = 0;

        Router(Clerk clerk) {
            this.clerk = clerk;
            for (int i = 0; i < STATIONS; i++) {
                carried[i] = new Message();
            }
        }

        void search(World world, int from, int to) {
            fewestLines = NONE;
            fewestLost = 0;
            goal = to;
            carried[0].copyFrom(world.paper);
            goOn(world, from, 0, 0, 1 << from);
        }

        /** Lines are tried by number, so of ways that are equally good the first is found first. */
        private void goOn(World world, int station, int depth, int lost, int been) {
            for (int number = 0; number < world.lineCount && depth + 1 < STATIONS; number++) {
                int next = world.lines[number].otherEnd(station);
                if (next != NONE && (been >> next & 1) == 0) {
                    way[depth] = number;
                    goTo(world, next, depth, lost, been | 1 << next);
                }
            }
        }

        private void goTo(World world, int station, int depth, int lost, int been) {
            Line line = world.lines[way[depth]];
            clerk.translate(world.rules[line.kind], world.today, line.frost, carried[depth]);
            int lostHere = carried[depth + 1].keepFrom(clerk.wire, line.lostDigits(line.frost));
            int allLost = lost + lostHere;
            if (!isBetter(allLost, depth + 1)) {
                return;
            }
            if (station == goal) {
                fewestLost = allLost;
                fewestLines = depth + 1;
                System.arraycopy(way, 0, bestWay, 0, STATIONS);
            } else {
                goOn(world, station, depth + 1, allLost, been);
            }
        }

        /** Neither number ever falls on the way, so what is no better now won't be. */
        private boolean isBetter(int lost, int lines) {
            return fewestLines == NONE || lost < fewestLost
                    || (lost == fewestLost && lines < fewestLines);
        }
    }
}
