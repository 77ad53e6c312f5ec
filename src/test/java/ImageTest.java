/** Promise 26 (image). */
public final class ImageTest {
    private static final int NONE = LostSevens.NONE;

    public static void main(String[] args) {
        allComesBack();
        whatIsNoPart();
        takenAnew();
        Due.close();
    }

    private static LostSevens told() {
        LostSevens x = new LostSevens();
        x.line(0, 1, 0, 0x80, 0x100, 1000);
        x.line(1, 2, 1, 0, 0, 0);
        Due.rules(x, 0, "5 to 8 when place=9;5 to 77 when place=0;5 to 6;");
        Due.rules(x, 1, "1 to none;");
        x.state(99);
        x.day();
        Due.paper(x, "5718");
        Due.seen(x, "1");
        x.send(0, 0, 1, NONE, NONE);
        Due.paper(x, "571");
        x.look(0);
        x.blank(1);
        x.write(1, 4);
        return x;
    }

    private static void changeAll(LostSevens x) {
        x.undo();
        Due.paper(x, "1878");
        x.send(1, 1, 1, 0, NONE);
        x.set(0, 0, 1);
        x.set(0, 1, 2);
        x.set(0, 2, 3);
        x.set(0, 3, 3);
        x.set(1, 4, 1);
        x.line(4, 5, 0, 0, 0, 0);
        Due.rules(x, 0, "8 to 1;8 to 2;");
        Due.rules(x, 1, "");
        Due.rules(x, 2, "1 to 5;");
        x.day();
        x.state(1);
        Due.paper(x, "0000");
        x.send(0, 0, 0, 0, 0);
        Due.seen(x, "000");
        x.look(0);
        x.look(1);
    }

    private static void allComesBack() {
        LostSevens x = told();
        Due.due("no image", x.image(false), false);
        Due.due("still there", x.tells(3), 1);
        x.send(0, 0, NONE, NONE, NONE);
        Due.due("taken", x.image(true), true);
        String before = Snapshot.held(x);
        for (int i = 0; i < 3; i++) {
            changeAll(x);
            Due.due("changed", Snapshot.held(x).equals(before), false);
            Due.due("gone back", x.image(false), true);
            Due.due("all", Snapshot.held(x), before);
            Due.due("nothing to undo", x.tells(6), 0);
        }
        LostSevens y = told();
        y.send(0, 0, NONE, NONE, NONE);
        x.day();
        y.day();
        x.send(0, 0, 1, 1, NONE);
        y.send(0, 0, 1, 1, NONE);
        Due.due("all goes on", Snapshot.held(x), Snapshot.held(y));
    }

    private static void whatIsNoPart() {
        LostSevens x = told();
        x.feed(0x31746F32, 0x3B202020, 0x20202020, 0x20202020, 0x20202020);
        x.image(true);
        x.feed(0x31746F32, 0x3B202020, 0x20202020, 0x20202020, 0x20202020);
        x.image(false);
        Due.due("the tape stays", x.feed(0, 0, 0, 0, 0), 60);
        x.text(0);
        Due.due("a fault", x.fault(0), 1);
        Due.due("its place", x.fault(1), 40);
        x.image(false);
        Due.due("the fault stays", x.fault(0), 1);
        Due.due("its place stays", x.fault(1), 40);
    }

    private static void takenAnew() {
        LostSevens x = told();
        x.image(true);
        x.day();
        x.image(true);
        String later = Snapshot.held(x);
        x.day();
        x.send(1, 1, NONE, NONE, NONE);
        Due.due("undo goes on behind an image", x.image(true) && x.undo(), true);
        x.image(false);
        Due.due("the latest image holds the sending", x.tells(3), 2);
        Due.due("and the day", x.tells(1), 3);
        Due.due("not what was before", Snapshot.held(x).equals(later), false);
    }
}
