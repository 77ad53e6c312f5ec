/**
 * Promises 25 to 27: each sentence of the document that names a boundary has a method here, with
 * the sentence above it.
 */
public final class PastEdgesTest {
    private static final int NONE = LostSevens.NONE;

    private interface Call {
        void on(LostSevens x);
    }

    public static void main(String[] args) {
        nothingToUndo();
        eightAreKept();
        keptAnew();
        notUndoneYet();
        whatGoesBack();
        whatGoesBackOfTheLast();
        whatStays();
        bookOfAnUndoneSending();
        whatForgets();
        whatIsNotForgotten();
        noImage();
        imageOfANewObject();
        imageMoreThanOnce();
        imageTakenAnew();
        imageAsItWas();
        imageOfTheFull();
        imageWithoutTapeAndFault();
        imageAndUndo();
        drawsGoOnFromTheImage();
        tells();
        tellsTheFull();
        Due.close();
    }

    private static LostSevens withLine() {
        LostSevens x = new LostSevens();
        x.line(0, 1, 0, 0x80, 0, 0);
        return x;
    }

    private static void send(LostSevens x, String paper) {
        Due.paper(x, paper);
        Due.due("sent", x.send(0, 0, NONE, NONE, NONE) == NONE, false);
    }

    private static void pastIs(LostSevens x, int sent, String came, long creep, int lost) {
        Due.due("sent", x.tells(3), sent);
        Due.due("came", Due.came(x), came);
        Due.due("creep", x.creep(), creep);
        Due.due("book", x.tells(2), lost);
        Due.due("lost", x.of(0, 17), lost);
    }

    /** "UNDO: true; false if there is nothing." */
    private static void nothingToUndo() {
        LostSevens x = new LostSevens();
        Due.due("new", x.undo(), false);
        Due.due("none can be", x.tells(6), 0);
        LostSevens y = withLine();
        Due.paper(y, "7");
        Due.due("a sending that can't be", y.send(2, 0, NONE, NONE, NONE), NONE);
        Due.due("is none to undo", y.undo(), false);
        send(y, "17");
        Due.due("one", y.undo(), true);
        Due.due("no more", y.undo(), false);
        pastIs(y, 0, "", 0, 0);
    }

    /** "8 are kept". */
    private static void eightAreKept() {
        LostSevens x = withLine();
        for (int i = 1; i <= 9; i++) {
            send(x, "7" + "1".repeat(i));
            Due.due("kept", x.tells(6), Math.min(i, 8));
        }
        for (int i = 8; i >= 1; i--) {
            Due.due("undo", x.undo(), true);
            Due.due("left", x.tells(6), i - 1);
            Due.due("came", Due.came(x), "1".repeat(i));
            Due.due("sent", x.tells(3), i);
        }
        Due.due("the ninth", x.undo(), false);
        Due.due("the first stays sent", x.tells(3), 1);
        Due.due("and came", Due.came(x), "1");
        Due.due("and lost", x.tells(2), 1);
    }

    /** The same, sent and undone in turn, so that those kept go round. */
    private static void keptAnew() {
        LostSevens x = withLine();
        for (int i = 1; i <= 13; i++) {
            send(x, "7");
        }
        for (int i = 0; i < 5; i++) {
            x.undo();
        }
        Due.due("three", x.tells(6), 3);
        for (int i = 0; i < 4; i++) {
            send(x, "71");
        }
        Due.due("seven", x.tells(6), 7);
        for (int i = 11; i >= 5; i--) {
            Due.due("undo", x.undo(), true);
            Due.due("sent", x.tells(3), i);
            Due.due("lost", x.of(0, 17), i);
        }
        Due.due("no more", x.undo(), false);
        Due.due("five stay", x.tells(3), 5);
    }

    /** "the latest sending not undone yet goes back". */
    private static void notUndoneYet() {
        LostSevens x = withLine();
        send(x, "17");
        send(x, "277");
        send(x, "3777");
        x.undo();
        pastIs(x, 2, "2", 1 - 17 + 2 - 277, 3);
        send(x, "47");
        x.undo();
        pastIs(x, 2, "2", 1 - 17 + 2 - 277, 3);
        x.undo();
        pastIs(x, 1, "1", 1 - 17, 1);
        x.undo();
        pastIs(x, 0, "", 0, 0);
    }

    /** "(CAME, THE BOOK, CREEP, SENT)", and with the book how often each line lost a digit. */
    private static void whatGoesBack() {
        LostSevens x = new LostSevens();
        x.line(0, 1, 0, 0x201, 0, 0);
        x.line(1, 2, 0, 0x2, 0, 0);
        Due.paper(x, "0915");
        x.send(0, 0, 1, NONE, NONE);
        String before = Snapshot.held(x);
        x.send(0, 0, 1, 1, 0);
        Due.due("more is lost", x.tells(2), 6);
        Due.due("undo", x.undo(), true);
        Due.due("all as before", Snapshot.held(x), before);
        Due.due("undo", x.undo(), true);
        Due.due("nothing lost", x.of(0, 10) + x.of(0, 19) + x.of(1, 11), 0);
        Due.due("an empty book", x.book(0, 0), NONE);
    }

    /** The same for the twelfth line's last digit. */
    private static void whatGoesBackOfTheLast() {
        LostSevens x = new LostSevens();
        for (int i = 0; i < 12; i++) {
            x.line(0, 1, 0, 0x200, 0, 0);
        }
        Due.paper(x, "9");
        x.send(0, 11, NONE, NONE, NONE);
        x.send(0, 11, NONE, NONE, NONE);
        Due.due("two", x.of(11, 19), 2);
        x.undo();
        Due.due("one", x.of(11, 19), 1);
        x.undo();
        Due.due("none", x.of(11, 19), 0);
    }

    /** The same: paper, seen, texts, looks, state stay as they are told meanwhile. */
    private static void whatStays() {
        LostSevens x = withLine();
        send(x, "17");
        Due.paper(x, "78");
        Due.seen(x, "8");
        x.look(0);
        x.state(5);
        Due.rules(x, 0, "8 to 9;");
        Due.due("undo", x.undo(), true);
        Due.due("paper", Due.message(x, 0), "78");
        Due.due("seen", Due.message(x, 1), "8");
        Due.due("looks", x.tells(5), 1);
        Due.due("cure", x.cure(0, 1), 0x80);
        Due.due("state", x.tells(4), 5);
        Due.due("rules", x.comes(0, 0, 0), 9);
        Due.due("sent", x.tells(3), 0);
    }

    /** The book's lines of an undone sending are written anew. */
    private static void bookOfAnUndoneSending() {
        LostSevens x = withLine();
        send(x, "717");
        x.undo();
        Due.due("not there", x.book(0, 3), NONE);
        send(x, "17");
        Due.due("another place", x.book(0, 3), 1);
        Due.due("one line", x.tells(2), 1);
    }

    private static void forgets(String what, Call call, boolean does) {
        LostSevens x = withLine();
        x.image(true);
        send(x, "17");
        send(x, "27");
        call.on(x);
        Due.due(what + " forgets", x.tells(6), does ? 0 : 2);
        Due.due(what + " then undo", x.undo(), !does);
    }

    /** "a DAY, and whatever else is told but texts, .. forgets them". */
    private static void whatForgets() {
        forgets("a day", x -> x.day(), true);
        forgets("a line", x -> x.line(0, 1, 0, 0, 0, 0), true);
        forgets("loses", x -> x.set(0, 0, 1), true);
        forgets("freezes", x -> x.set(0, 1, 1), true);
        forgets("odds", x -> x.set(0, 2, 1), true);
        forgets("kind", x -> x.set(0, 3, 1), true);
        forgets("frost", x -> x.set(0, 4, 1), true);
        forgets("what it is already", x -> x.set(0, 0, 0x80), true);
        forgets("going back to the image", x -> x.image(false), true);
    }

    /** "but texts, THE PAPER, SEEN, LOOKS, STATE"; nor does what is refused or only asked. */
    private static void whatIsNotForgotten() {
        forgets("a text", x -> Due.rules(x, 0, "7 to 6;"), false);
        forgets("a faulty text", x -> Due.rules(x, 0, "7"), false);
        forgets("a text for no kind", x -> Due.rules(x, 4, "7"), false);
        forgets("an end", x -> x.end(0), false);
        forgets("the paper", x -> x.write(0, 1), false);
        forgets("a blank paper", x -> x.blank(0), false);
        forgets("seen", x -> x.write(1, 1), false);
        forgets("nothing seen", x -> x.blank(1), false);
        forgets("a look", x -> x.look(0), false);
        forgets("state", x -> x.state(1), false);
        forgets("taking an image", x -> x.image(true), false);
        forgets("a line that can't be", x -> x.line(0, 0, 0, 0, 0, 0), false);
        forgets("a setting that can't be", x -> x.set(0, 0, 1024), false);
        forgets("a setting of no line", x -> x.set(1, 0, 0), false);
        forgets("another setting", x -> x.set(0, 5, 0), false);
        forgets("a sending that can't be", x -> x.send(0, 1, NONE, NONE, NONE), false);
        forgets("a thought", x -> x.meant(0, 0, 2, 0), false);
    }

    /** "THE IMAGE is taken (true), or gone back to (false): true; false if there is none." */
    private static void noImage() {
        LostSevens x = withLine();
        send(x, "17");
        Due.due("none", x.image(false), false);
        pastIs(x, 1, "1", 1 - 17, 1);
        Due.due("what can be undone stays", x.tells(6), 1);
        Due.due("taken", x.image(true), true);
        Due.due("there is one", x.image(false), true);
    }

    /** The same of an object that was told nothing: all that was told since is gone. */
    private static void imageOfANewObject() {
        LostSevens x = new LostSevens();
        String before = Snapshot.held(x);
        x.image(true);
        x.line(0, 1, 0, 0x80, 0, 1000);
        Due.rules(x, 0, "1 to 2;");
        send(x, "17");
        Due.seen(x, "1");
        x.look(0);
        x.day();
        Due.due("gone back", x.image(false), true);
        Due.due("as new", Snapshot.held(x), before);
        Due.due("no line", x.of(0, 0), NONE);
        Due.due("a line's losses are gone", x.line(0, 1, 0, 0, 0, 0), 0);
        for (int d = 0; d < 10; d++) {
            Due.due("lost " + d, x.of(0, 10 + d), 0);
        }
        Due.due("nor has it frost", x.of(0, 6), 0);
        Due.due("nor is it looked at", x.cure(0, 0), 1024);
    }

    /** "gone back to it may be more than once". */
    private static void imageMoreThanOnce() {
        LostSevens x = withLine();
        send(x, "17");
        x.image(true);
        for (int i = 0; i < 5; i++) {
            send(x, "277");
            x.day();
            x.set(0, 0, 0);
            Due.due("gone back", x.image(false), true);
            pastIs(x, 1, "1", 1 - 17, 1);
            Due.due("day", x.tells(1), 0);
            Due.due("loses", x.of(0, 3), 0x80);
        }
        Due.due("twice on end", x.image(false), true);
        pastIs(x, 1, "1", 1 - 17, 1);
    }

    /** "as it was when it was taken": the latest taken alone. */
    private static void imageTakenAnew() {
        LostSevens x = withLine();
        x.image(true);
        x.day();
        x.image(true);
        x.day();
        x.image(false);
        Due.due("the latest", x.tells(1), 1);
        x.image(false);
        Due.due("not the one before it", x.tells(1), 1);
        x.day();
        x.day();
        x.image(true);
        x.image(false);
        Due.due("taken behind a going back", x.tells(1), 3);
    }

    /** The same: what is told later does not reach into it. */
    private static void imageAsItWas() {
        LostSevens x = new LostSevens();
        x.line(0, 1, 0, 0x80, 0x100, 500);
        Due.rules(x, 0, "1 to 2 when place=0;");
        send(x, "117");
        Due.seen(x, "11");
        x.look(0);
        x.state(9);
        x.image(true);
        String before = Snapshot.held(x);
        Call[] changes = {y -> y.set(0, 0, 1), y -> y.set(0, 1, 1), y -> y.set(0, 2, 1),
            y -> y.set(0, 3, 1), y -> y.set(0, 4, 1), y -> y.line(0, 1, 0, 0, 0, 0),
            y -> y.write(0, 5), y -> y.blank(1), y -> y.look(0), y -> y.state(8), y -> y.day(),
            y -> y.send(0, 0, 0, NONE, NONE), y -> Due.rules(y, 0, "1 to 5;1 to 6;")};
        for (Call change : changes) {
            change.on(x);
            Due.due("changed", Snapshot.held(x).equals(before), false);
            x.image(false);
            Due.due("as it was", Snapshot.held(x), before);
        }
    }

    /** The same of all that is full: lines, book, looks, paper, rules. */
    private static void imageOfTheFull() {
        LostSevens x = new LostSevens();
        for (int i = 0; i < 12; i++) {
            x.line(0, 1, 3, 0x3FF, i, i);
        }
        Due.rules(x, 3, "7 to 1234;".repeat(15) + "8 to 5678 when left=6;");
        Due.paper(x, "777777777777");
        for (int i = 0; i < 20; i++) {
            x.look(11);
        }
        for (int i = 0; i < 6; i++) {
            x.send(0, 11, NONE, NONE, NONE);
        }
        x.image(true);
        x.undo();
        x.undo();
        Due.rules(x, 3, "7 to 9 when left=7;".repeat(16));
        for (int i = 0; i < 8; i++) {
            x.send(0, 10, 10, NONE, NONE);
        }
        Due.due("the book is another", x.book(199, 0), 10);
        x.blank(0);
        x.set(11, 1, 0);
        x.image(false);
        Due.due("lines", x.tells(0), 12);
        Due.due("freezes", x.of(11, 4), 11);
        Due.due("book", x.tells(2), 200);
        Due.due("its last line", x.book(199, 3), 19);
        Due.due("of the line", x.book(199, 0), 11);
        Due.due("beyond it", x.of(11, 11), 54);
        Due.due("not the other line's", x.of(10, 17), 0);
        Due.due("looks", x.tells(5), 20);
        Due.due("no 21st", x.look(0), NONE);
        Due.due("rules", x.tells(13), 16);
        Due.due("paper", x.read(0, NONE), 12);
        Due.due("no 13th digit", x.write(0, 1), NONE);
        Due.due("no 13th line", x.line(0, 1, 0, 0, 0, 0), NONE);
        Due.paper(x, "688");
        x.set(11, 0, 0);
        Due.due("the last rule", Due.comes(x, 11, 0), "656788");
    }

    /** "all that is and was told but the TAPE, fault()". */
    private static void imageWithoutTapeAndFault() {
        LostSevens x = withLine();
        Due.feed(x, "7 to 6;");
        x.image(true);
        x.end(4);
        x.image(false);
        Due.due("the tape is as now", x.end(5), false);
        Due.due("so long", x.end(4), true);
        Due.due("a fault", x.text(0), NONE);
        x.image(false);
        Due.due("the fault stays", x.fault(0), 1);
        Due.due("its place, too", x.fault(1), 4);
        x.image(true);
        Due.rules(x, 0, "77");
        x.image(false);
        Due.due("the latest fault stays", x.fault(0), 2);
        Due.rules(x, 0, "7 to 6;");
        x.image(false);
        Due.due("no fault stays none", x.fault(0), 0);
        Due.due("nor a place", x.fault(1), NONE);
        Due.due("yet the rules go back", x.tells(10), 0);
    }

    /** "and what can be undone (nothing then)". */
    private static void imageAndUndo() {
        LostSevens x = withLine();
        send(x, "17");
        x.image(true);
        Due.due("still one", x.tells(6), 1);
        send(x, "27");
        x.image(false);
        Due.due("nothing then", x.tells(6), 0);
        Due.due("no undo", x.undo(), false);
        pastIs(x, 1, "1", 1 - 17, 1);
        send(x, "37");
        Due.due("a new one", x.undo(), true);
        pastIs(x, 1, "1", 1 - 17, 1);
        send(x, "47");
        x.image(true);
        Due.due("undone behind the image", x.undo(), true);
        pastIs(x, 1, "1", 1 - 17, 1);
        x.image(false);
        Due.due("it is sent in the image", x.tells(3), 2);
        Due.due("for good", x.undo(), false);
    }

    /** "an image from which all goes on": the same draws come again. */
    private static void drawsGoOnFromTheImage() {
        LostSevens x = new LostSevens();
        for (int i = 0; i < 4; i++) {
            x.line(0, 1, 0, 0, 0, 500);
        }
        x.day();
        x.image(true);
        StringBuilder first = new StringBuilder();
        StringBuilder again = new StringBuilder();
        for (int i = 0; i < 20; i++) {
            first.append(x.day()).append(x.of(i % 4, 6));
        }
        x.image(false);
        for (int i = 0; i < 20; i++) {
            again.append(x.day()).append(x.of(i % 4, 6));
        }
        Due.due("the same days", again.toString(), first.toString());
    }

    /** "NONE for another what." */
    private static void tells() {
        LostSevens x = withLine();
        for (int what : new int[] {-1, 7, 8, 9, 14, Integer.MIN_VALUE, Integer.MAX_VALUE}) {
            Due.due("tells " + what, x.tells(what), NONE);
        }
        for (int what : new int[] {1, 2, 3, 4, 5, 6, 10, 11, 12, 13}) {
            Due.due("tells " + what, x.tells(what), 0);
        }
        Due.due("tells 0", x.tells(0), 1);
        x.state(-1);
        Due.due("a state of -1 is no none", x.tells(4), -1);
    }

    /** "0 LINES, .. 2 lines of THE BOOK, .. 5 LOOKS, 6 what can be undone, 10 + k lines": full. */
    private static void tellsTheFull() {
        LostSevens x = new LostSevens();
        for (int i = 0; i < 12; i++) {
            x.line(0, 1, 0, 0x80, 0, 0);
        }
        for (int kind = 0; kind < 4; kind++) {
            Due.rules(x, kind, "7 to 777;".repeat(16));
        }
        Due.paper(x, "777777777777");
        for (int i = 0; i < 20; i++) {
            x.look(0);
        }
        for (int i = 0; i < 9; i++) {
            x.send(0, 0, NONE, NONE, NONE);
        }
        int[] due = {12, 0, 200, 9, 0, 20, 8, NONE, NONE, NONE, 16, 16, 16, 16, NONE};
        for (int what = 0; what < due.length; what++) {
            Due.due("tells " + what, x.tells(what), due[what]);
        }
    }
}
