/** Promise 22 (clerks). */
public final class ClerksTest {
    public static void main(String[] args) {
        LostSevens x = new LostSevens();
        Due.due("all alike", x.clerks(), 15);
        Due.rules(x, 0, "7 to 66;");
        Due.rules(x, 1, "7 to 66 when frost=0 and day=0;");
        Due.rules(x, 2, "7 to 66 when frost=1;");
        Due.due("of nothing nothing comes", x.clerks(), 15);
        Due.paper(x, "171");
        Due.due("nothing seen", x.clerks(), 0);
        Due.seen(x, "171");
        Due.due("nothing changed", x.clerks(), 12);
        Due.seen(x, "1661");
        Due.due("changed", x.clerks(), 3);
        Due.seen(x, "9661");
        Due.due("another first digit", x.clerks(), 0);
        Due.seen(x, "1669");
        Due.due("another last digit", x.clerks(), 0);
        Due.seen(x, "166");
        Due.due("too short", x.clerks(), 0);
        Due.seen(x, "16611");
        Due.due("too long", x.clerks(), 0);
        x.line(0, 1, 0, 0x3FF, 0x3FF, 0);
        x.set(0, 4, 1);
        Due.seen(x, "1661");
        Due.due("what lines lose does not count", x.clerks(), 3);
        x.day();
        Due.due("on another day", x.clerks(), 1);
        Due.rules(x, 3, "7 to none;1 to none;");
        Due.seen(x, "");
        Due.due("nothing comes", x.clerks(), 8);
        Due.paper(x, "777777777777");
        Due.rules(x, 2, "7 to 5555 when place=11;7 to none;");
        Due.seen(x, "5555");
        Due.due("by place", x.clerks(), 4);
        Due.close();
    }
}
