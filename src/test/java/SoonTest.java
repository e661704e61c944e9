/** Promises 13 to 18: opens, shuts, bread, row, harm, married. */
public final class SoonTest {
    private static final int UNMARRIED = DrawerWall.NONE - 100;

    public static void main(String[] args) {
        opens();
        theFirstRow();
        shuts();
        never();
        bread();
        row();
        harm();
        married();
        marriedIsWide();
        marriedAmongOthers();
        canNotMarry();
        Checks.end();
    }

    private static void opens() {
        DrawerWall w = Checks.wall("wall 1 9;home 0 1 5;home 0 3 4;home 0 5 3;home 0 7 2;");
        Checks.same("a ladder", w.opens(3), 4);
        Checks.row("a ladder", w, 0, 1, 2, 3);
        w.move(0);
        Checks.same("from now on", w.opens(3), 3);
        Checks.row("from now on", w, 1, 2, 3);
        Checks.same("out already", w.opens(0), 0);
        Checks.row("out already", w);
        Checks.same("nothing was moved", w.count(6), 1);
        Checks.noSuchElement("opens(4)", () -> w.opens(4));
        Checks.noSuchElement("opens(-1)", () -> w.opens(-1));
    }

    private static void theFirstRow() {
        DrawerWall w = Checks.wall("home 1 0 5;home 0 0 9;home 0 2 3 wide;rule not (story = 2 and out = 1);");
        Checks.same("two ways", w.opens(2), 2);
        Checks.row("two ways", w, 0, 2);
        w.sleeps(0, true);
        Checks.same("one way", w.opens(2), 2);
        Checks.row("one way", w, 1, 2);
        DrawerWall v = Checks.wall("home 2 0 1;home 1 0 1;home 0 0 1;rule out < 3;");
        v.move(1);
        v.move(0);
        Checks.same("one must be pushed in", v.opens(2), 2);
        Checks.row("the least one", v, 0, 2);
    }

    private static void shuts() {
        DrawerWall w = Checks.wall("home 0 0 5;home 0 2 4;");
        Checks.same("in already", w.shuts(1), 0);
        Checks.row("in already", w);
        w.move(0);
        w.move(1);
        Checks.same("at once", w.shuts(1), 1);
        Checks.row("at once", w, 1);
        w.move(0);
        Checks.same("it isn't reached now", w.shuts(1), 2);
        Checks.row("it isn't reached now", w, 0, 1);
        w.sleeps(0, true);
        Checks.same("sleepers stay so", w.shuts(1), DrawerWall.NONE);
        Checks.row("what is kept stays", w, 0, 1);
        Checks.noSuchElement("shuts(2)", () -> w.shuts(2));
        Checks.noSuchElement("shuts(-1)", () -> w.shuts(-1));
    }

    private static void never() {
        DrawerWall w = Checks.wall("grave 0 0 1;home 0 3 1;home 1 0 1;");
        Checks.same("a grave", w.opens(0), DrawerWall.NONE);
        Checks.noSuchElement("no row is kept", () -> w.row(DrawerWall.NONE));
        Checks.same("too high", w.opens(1), DrawerWall.NONE);
        w.sleeps(2, true);
        Checks.same("it sleeps", w.opens(2), DrawerWall.NONE);
        Checks.same("it sleeps, but is in", w.shuts(2), 0);
    }

    private static void bread() {
        DrawerWall w = Checks.wall("home 0 0 3;shop 1 0 3;home 2 0 3;shop 0 1 2;person 0 wants 1;person 2 wants 3;"
            + "person 0 wants 3;person 2;rule out < 3;");
        Checks.same("by turns", w.bread(), 6);
        Checks.row("by turns", w, 0, 1, 1, 3, 0, 2);
        w.move(1);
        w.move(0);
        w.move(1);
        Checks.same("one has it", w.bread(), 3);
        Checks.row("one has it", w, 3, 0, 2);
        w.move(3);
        w.move(0);
        w.move(2);
        Checks.same("all have it", w.bread(), 0);
        Checks.row("all have it", w);
        w.undo();
        w.sleeps(2, true);
        Checks.same("never", w.bread(), DrawerWall.NONE);
        Checks.row("what is kept stays", w);
        DrawerWall v = Checks.wall("home 0 0 3;person 0;");
        Checks.same("nobody wants a shop", v.bread(), 0);
    }

    private static void row() {
        DrawerWall w = Checks.wall("home 0 0 5;home 0 2 4;");
        Checks.noSuchElement("none is kept", () -> w.row(0));
        Checks.noSuchElement("none is kept (NONE)", () -> w.row(DrawerWall.NONE));
        w.opens(1);
        Checks.noSuchElement("behind the end", () -> w.row(2));
        Checks.noSuchElement("below NONE", () -> w.row(-2));
        w.move(0);
        w.move(1);
        w.wind(1, 1);
        Checks.row("moves leave it", w, 0, 1);
        w.image();
        w.shuts(1);
        w.restore();
        Checks.row("an image has no row", w, 1);
        w.harm(0);
        w.married(0, 1);
        Checks.row("harm and marriage leave it", w, 1);
    }

    private static void harm() {
        DrawerWall w = Checks.wall("wall 2 9;home 0 0 9;home 0 2 8;home 0 4 7;home 0 6 6;home 1 0 1;");
        Checks.same("all above", w.harm(0), 3);
        Checks.same("the next ones", w.harm(1), 2);
        Checks.same("the highest", w.harm(3), 0);
        Checks.same("beside", w.harm(4), 0);
        w.sleeps(0, true);
        Checks.same("as if it didn't sleep", w.harm(0), 3);
        Checks.same("others sleep", w.harm(1), 0);
        Checks.same("it still sleeps", w.count(9), 1);
        w.sleeps(0, false);
        w.move(0);
        Checks.same("out as it is", w.harm(0), 0);
        DrawerWall v = Checks.wall("home 0 0 1;home 0 1 2;");
        v.move(0);
        Checks.same("out it is in the way", v.harm(0), 1);
        Checks.noSuchElement("harm(2)", () -> v.harm(2));
        Checks.noSuchElement("harm(-1)", () -> v.harm(-1));
    }

    private static void married() {
        DrawerWall w = Checks.wall("home 0 0 3;home 1 0 2;shop 2 0 1;person 0 wants 2;person 1 wants 2;");
        Checks.same("one move instead of two", w.married(0, 1), -1);
        Checks.same("the other way round", w.married(1, 0), -1);
        Checks.same("nothing has changed", w.count(2), 2 + 1);
        Checks.same("nor bread", w.bread(), 3);
        w.move(2);
        Checks.same("from now on", w.married(0, 1), -1);
        w.move(0);
        w.move(1);
        w.move(0);
        w.move(1);
        Checks.same("all have bread", w.married(0, 1), 0);
        DrawerWall v = Checks.wall("home 0 0 3;home 1 0 4;");
        Checks.same("nobody is hungry", v.married(0, 1), 0);
    }

    private static void marriedIsWide() {
        DrawerWall longer = Checks.wall("home 0 1 1;home 1 1 5;shop 0 0 4;person 0 wants 2;");
        Checks.same("too long then", longer.bread(), 2);
        Checks.same("never bread", longer.married(0, 1), UNMARRIED);
        Checks.same("never bread, round", longer.married(1, 0), UNMARRIED);
        DrawerWall later = Checks.wall("home 0 1 1;home 1 1 2;shop 2 0 4;stove 1 0 2;person 0 wants 2;");
        later.move(3);
        Checks.same("the stove is in the way", later.married(0, 1), 1);
        DrawerWall climb = Checks.wall("wall 3 9;home 0 2 5;home 1 2 5;stove 1 0 6;shop 0 4 1;person 0 wants 3;");
        Checks.same("no foot below", climb.bread(), DrawerWall.NONE);
        Checks.same("not without marriage", climb.married(0, 1), UNMARRIED);
        DrawerWall rule = Checks.wall("home 0 0 3;home 1 0 2;shop 2 0 1;person 1 wants 2;rule column = 1 or column = 2;");
        Checks.same("in the lower column", rule.married(1, 0), UNMARRIED);
        DrawerWall above = Checks.wall("home 0 0 4;home 1 0 2;shop 1 1 3;person 0 wants 2;rule above = 0 or column = 0;");
        Checks.same("above the second column", above.married(0, 1), 0);
    }

    private static void marriedAmongOthers() {
        DrawerWall beside = Checks.wall("wall 4 4;home 0 1 5;home 1 1 4;stove 2 0 2;shop 3 0 4;person 0 wants 3;");
        beside.move(2);
        Checks.same("the stove is beside", beside.married(0, 1), 0);
        DrawerWall blocked = Checks.wall("home 0 1 1;home 1 1 2;shop 2 0 4;stove 1 0 2;person 0 wants 2;");
        blocked.move(3);
        blocked.sleeps(3, true);
        Checks.same("the stove sleeps in the way", blocked.married(0, 1), UNMARRIED);
        DrawerWall gone = Checks.wall("home 0 0 5;home 1 0 5;shop 2 0 5;person 0 wants 2;rule kind = 0 or 2 < out;");
        Checks.same("three are out", gone.bread(), 3);
        Checks.same("one of the three is no drawer", gone.married(0, 1), UNMARRIED);
        Checks.same("nor is the other", gone.married(1, 0), UNMARRIED);
        DrawerWall rules = Checks.wall("home 0 0 5;home 1 0 3;shop 2 0 5;person 1 wants 2;rule 1;rule 1;rule 1;"
            + "rule length = 3 or kind = 1;");
        Checks.same("against the fourth rule", rules.married(0, 1), UNMARRIED);
        DrawerWall reach = Checks.wall("wall 2 9;reach 3;home 0 2 5;home 1 2 4;shop 1 5 3;person 0 wants 2;");
        Checks.same("a foothold of both", reach.married(0, 1), -1);
    }

    private static void canNotMarry() {
        DrawerWall w = Checks.wall("wall 6 4;home 0 0 3;home 1 0 2;shop 2 0 1;home 3 0 1;home 4 0 1 wide;home 3 1 1;home 4 1 1;");
        Checks.same("a shop", w.married(1, 2), UNMARRIED);
        Checks.same("a wide one", w.married(3, 4), UNMARRIED);
        Checks.same("another story", w.married(3, 5), UNMARRIED);
        Checks.same("across", w.married(3, 6), UNMARRIED);
        Checks.same("not side by side", w.married(0, 3), UNMARRIED);
        Checks.same("itself", w.married(0, 0), UNMARRIED);
        Checks.same("side by side", w.married(5, 6), 0);
        w.sleeps(0, true);
        Checks.same("one sleeps", w.married(0, 1), UNMARRIED);
        w.sleeps(0, false);
        w.move(1);
        Checks.same("one is out", w.married(0, 1), UNMARRIED);
        Checks.noSuchElement("married(0, 7)", () -> w.married(0, 7));
        Checks.noSuchElement("married(7, 0)", () -> w.married(7, 0));
        Checks.noSuchElement("married(-1, 0)", () -> w.married(-1, 0));
    }
}
