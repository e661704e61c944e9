/** Promises 1 to 5: a new object, feed, city, fault, count. */
public final class TapeTest {
    public static void main(String[] args) {
        newObject();
        feed();
        highestByteFirst();
        city();
        cityIsAnew();
        refusedCityLeavesAll();
        count();
        Checks.end();
    }

    private static void newObject() {
        DrawerWall w = new DrawerWall();
        int[] due = {3, 4, 0, 0, 2, 0, 0, 0, 0, 0, 0, 0, 0};
        for (int what = 0; what < due.length; what++) {
            Checks.same("new count(" + what + ")", w.count(what), due[what]);
        }
        Checks.same("new fault", w.fault(), DrawerWall.NONE);
        Checks.same("new undo", w.undo(), DrawerWall.NONE);
        Checks.same("new restore", w.restore(), false);
        Checks.same("new rent", w.rent(), 0);
        Checks.same("new may(0)", w.may(0), true);
        Checks.same("new broken(0)", w.broken(0), DrawerWall.NONE);
        Checks.noSuchElement("new row", () -> w.row(DrawerWall.NONE));
        Checks.noSuchElement("new drawer", () -> w.drawer(0, 0));
        Checks.noSuchElement("new person", () -> w.person(0, 0));
        Checks.noSuchElement("new sleeps", () -> w.sleeps(0, true));
        Checks.same("new bread", w.bread(), 0);
        Checks.same("new bread's row", w.row(DrawerWall.NONE), 0);
    }

    private static void feed() {
        DrawerWall w = new DrawerWall();
        for (int i = 1; i <= 35; i++) {
            Checks.same("feed " + i, w.feed(0x20202020, 0x20202020, 0x20202020, 0x20202020, 0x20202020), 20 * i);
        }
        Checks.same("feed beyond 700", w.feed(0, 0, 0, 0, 0), DrawerWall.NONE);
        Checks.same("feed beyond 700 leaves the tape", w.count(10), 700);
        Checks.same("700 blanks", w.city(700), 0);
        Checks.same("the tape is empty", w.count(10), 0);
        Checks.same("feed again", w.feed(0, 0, 0, 0, 0), 20);
    }

    private static void highestByteFirst() {
        DrawerWall w = new DrawerWall();
        w.feed('r' << 24 | 'e' << 16 | 'a' << 8 | 'c', 'h' << 24 | ' ' << 16 | '7' << 8 | ';', -1, 0, 0);
        Checks.same("eight bytes", w.city(8), 0);
        Checks.same("reach", w.count(4), 7);
        w.feed(-1, 0, 0, 0, 0);
        Checks.same("byte 255", w.city(1), 1);
    }

    private static void city() {
        DrawerWall w = new DrawerWall();
        Checks.feed(w, "reach 5;reach");
        Checks.illegalArgument("city beyond the tape", () -> w.city(21));
        Checks.illegalArgument("city below 0", () -> w.city(-1));
        Checks.same("nothing changed", w.count(10), 20);
        Checks.same("nothing refused", w.count(11), 0);
        Checks.same("only the first bytes count", w.city(8), 0);
        Checks.same("reach", w.count(4), 5);
        Checks.same("the rest is gone, too", w.count(10), 0);
        Checks.illegalArgument("city of an empty tape", () -> w.city(1));
        Checks.same("city(0) is empty", w.city(0), 0);
        Checks.same("reach without", w.count(4), 2);
        Checks.same("blanks and no blanks", Checks.tell(w, "\n wall\n2 3;home0 0 1;shop 1 2 9;\n"), 0);
        Checks.same("columns", w.count(0), 2);
        Checks.same("stories", w.count(1), 3);
        Checks.same("drawers", w.count(2), 2);
    }

    private static void cityIsAnew() {
        DrawerWall w = Checks.wall("home 0 0 3;shop 1 0 2;person 0 wants 1;wind 1000;reach 3;rule 1;rent 1 1 1;");
        w.move(0);
        w.move(1);
        w.move(7);
        w.sleeps(0, true);
        w.wind(1, 1);
        w.move(1);
        w.opens(1);
        w.image();
        Checks.same("hurt", w.person(0, 4), 1);
        Checks.same("a new city", Checks.tell(w, "home 0 0 3;shop 1 0 2;home 0 1 1;person 0 wants 1;"), 0);
        Checks.same("nothing is out", w.count(6), 0);
        Checks.same("no moves", w.count(7), 0);
        Checks.same("no bread", w.count(8), 0);
        Checks.same("none sleeps", w.count(9), 0);
        Checks.same("nobody is hurt", w.person(0, 4), 0);
        Checks.same("reach", w.count(4), 2);
        Checks.same("rules", w.count(5), 0);
        Checks.same("rent", w.rent(), 0);
        Checks.same("rent by height", w.drawer(2, 7), 0);
        Checks.same("what was refused stays", w.count(12), 1);
        Checks.same("the image is gone", w.restore(), false);
        Checks.noSuchElement("the row is gone", () -> w.row(DrawerWall.NONE));
        w.move(0);
        Checks.same("no wind", w.wind(1, 60), 0);
    }

    private static void refusedCityLeavesAll() {
        DrawerWall w = Checks.wall("wall 2 2;home 0 0 3;");
        w.move(0);
        w.image();
        w.shuts(0);
        Checks.same("a fault", Checks.tell(w, "wall 1 1;home 0 1 1;"), 2);
        Checks.same("its place", w.fault(), 16);
        Checks.same("the tape is empty", w.count(10), 0);
        Checks.same("refused", w.count(11), 1);
        Checks.same("columns stay", w.count(0), 2);
        Checks.same("out stays", w.count(6), 1);
        Checks.same("moves stay", w.count(7), 1);
        Checks.row("the row stays", w, 0);
        Checks.same("the image stays", w.restore(), true);
        Checks.same("the place stays", w.fault(), 16);
        Checks.illegalArgument("city beyond the tape", () -> w.city(1));
        Checks.same("the place stays then, too", w.fault(), 16);
        Checks.same("a city", w.city(0), 0);
        Checks.same("no place any more", w.fault(), DrawerWall.NONE);
    }

    private static void count() {
        DrawerWall w = Checks.wall("wall 6 9;reach 9;home 0 0 3;shop 5 8 1;home 1 0 1;grave 2 0 1;person 0 wants 1;"
            + "person 2;rule 1;rule out<4;");
        Checks.feed(w, "x");
        w.city(1);
        Checks.feed(w, "y");
        w.move(0);
        w.move(2);
        w.move(3);
        w.move(4);
        w.sleeps(3, true);
        int[] due = {6, 9, 4, 2, 9, 2, 5, 2, 0, 8, 20, 1, 2};
        for (int what = 0; what < due.length; what++) {
            Checks.same("count(" + what + ")", w.count(what), due[what]);
        }
        Checks.noSuchElement("count(13)", () -> w.count(13));
        Checks.noSuchElement("count(-1)", () -> w.count(-1));
    }
}
