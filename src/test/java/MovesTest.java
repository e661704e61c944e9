/** Promises 6, 7 and 10 to 12: drawer, person, move, undo, sleeps. */
public final class MovesTest {
    public static void main(String[] args) {
        drawer();
        reached();
        reachedInTurn();
        person();
        troubles();
        theLeastTrouble();
        hundredMoves();
        bread();
        undo();
        sleeps();
        Checks.end();
    }

    private static void drawer() {
        DrawerWall w = Checks.wall("wall 4 5;rent 5 7 11;home 0 0 1;shop 1 2 3 wide;grave 3 4 9;stove 2 0 4;");
        int[][] due = {{0, 0, 0, 1, 0, 0, 1, 16}, {1, 1, 2, 3, 1, 0, 0, 104}, {2, 3, 4, 9, 0, 0, 0, 0},
            {3, 2, 0, 4, 0, 1, 1, 49}};
        w.move(3);
        due[1][6] = 1;
        for (int d = 0; d < due.length; d++) {
            for (int what = 0; what < due[d].length; what++) {
                Checks.same("drawer(" + d + ", " + what + ")", w.drawer(d, what), due[d][what]);
            }
        }
        Checks.noSuchElement("drawer(4, 0)", () -> w.drawer(4, 0));
        Checks.noSuchElement("drawer(-1, 0)", () -> w.drawer(-1, 0));
        Checks.noSuchElement("drawer(0, 8)", () -> w.drawer(0, 8));
        Checks.noSuchElement("drawer(0, -1)", () -> w.drawer(0, -1));
        Checks.noSuchElement("drawer(4, 8)", () -> w.drawer(4, 8));
    }

    private static void reached() {
        DrawerWall w = Checks.wall("wall 3 9;reach 3;home 0 2 9;home 0 3 8;home 0 5 7;home 0 6 6;home 1 4 5;home 1 3 9 wide;");
        Checks.same("below reach", w.drawer(0, 6), 1);
        Checks.same("at reach", w.drawer(1, 6), 0);
        w.move(0);
        Checks.same("no more than reach above", w.drawer(2, 6), 1);
        Checks.same("more than reach above", w.drawer(3, 6), 0);
        Checks.same("in another column", w.drawer(4, 6), 0);
        Checks.same("a drawer that is out", w.drawer(0, 6), 1);
    }

    private static void reachedInTurn() {
        DrawerWall w = Checks.wall("wall 2 9;home 0 0 9;home 0 2 8 wide;home 1 4 7;home 1 6 6;");
        w.move(0);
        w.move(1);
        w.move(2);
        Checks.same("by turns", w.drawer(3, 6), 1);
        Checks.same("the lowest is pushed in", w.move(0), 0);
        Checks.same("not the second", w.drawer(1, 6), 0);
        Checks.same("nor the third", w.drawer(2, 6), 0);
        Checks.same("nor the fourth", w.drawer(3, 6), 0);
        Checks.same("so it can't be pushed in", w.move(1), 3);
        Checks.same("pulled out again", w.move(0), 0);
        Checks.same("now it can", w.move(1), 0);
    }

    private static void person() {
        DrawerWall w = Checks.wall("home 0 0 1;shop 1 0 3;home 2 0 2;person 2 wants 1 weight 0;person 0;person 2 weight 99;"
            + "wind 1000;");
        int[][] due = {{2, 1, 0, 0, 0}, {0, DrawerWall.NONE, 1, 0, 0}, {2, DrawerWall.NONE, 99, 0, 0}};
        w.move(1);
        w.move(2);
        w.sleeps(2, true);
        w.wind(3, 1);
        due[0][3] = 1;
        due[0][4] = 1;
        due[2][4] = 1;
        for (int p = 0; p < due.length; p++) {
            for (int what = 0; what < due[p].length; what++) {
                Checks.same("person(" + p + ", " + what + ")", w.person(p, what), due[p][what]);
            }
        }
        Checks.noSuchElement("person(3, 0)", () -> w.person(3, 0));
        Checks.noSuchElement("person(-1, 0)", () -> w.person(-1, 0));
        Checks.noSuchElement("person(0, 5)", () -> w.person(0, 5));
        Checks.noSuchElement("person(0, -1)", () -> w.person(0, -1));
    }

    private static void troubles() {
        DrawerWall w = Checks.wall("home 0 0 1;home 0 2 1;grave 1 0 1;rule out < 2 or shops = 1;shop 2 0 1;home 1 1 1;");
        Checks.same("no drawer", w.move(5), 1);
        Checks.same("no drawer below 0", w.move(-1), 1);
        Checks.same("no drawer by wrapped bits", w.move(32), 1);
        w.sleeps(0, true);
        Checks.same("it sleeps", w.move(0), 2);
        w.sleeps(0, false);
        Checks.same("not reached", w.move(1), 3);
        Checks.same("a grave", w.move(2), 4);
        Checks.same("refused", w.count(12), 6);
        Checks.same("nothing is out", w.count(6), 0);
        Checks.same("no move", w.count(7), 0);
        Checks.same("pulled out", w.move(0), 0);
        Checks.same("not longer", w.move(1), 4);
        Checks.same("against the rule", w.move(4), 4);
        Checks.same("with a shop", w.move(3), 0);
        Checks.same("by the rule", w.move(4), 0);
        Checks.same("pushed in against the rule", w.move(3), 4);
        Checks.same("pushed in", w.move(0), 0);
        Checks.same("out", w.count(6), 0b11000);
        Checks.same("moves", w.count(7), 4);
        Checks.same("refused then", w.count(12), 9);
    }

    private static void theLeastTrouble() {
        DrawerWall w = Checks.wall("grave 0 3 1;grave 0 0 1;");
        w.sleeps(0, true);
        Checks.same("sleeps, isn't reached, can't be", w.move(0), 2);
        w.sleeps(0, false);
        Checks.same("isn't reached, can't be", w.move(0), 3);
    }

    private static void hundredMoves() {
        DrawerWall w = Checks.wall("home 0 0 1;grave 1 0 1;home 0 3 1;");
        for (int i = 0; i < 100; i++) {
            Checks.same("move " + i, w.move(0), 0);
        }
        Checks.same("one more", w.move(0), 5);
        Checks.same("a grave, the least", w.move(1), 4);
        Checks.same("not reached, the least", w.move(2), 3);
        Checks.same("moves", w.count(7), 100);
        Checks.same("undone", w.undo(), 99);
        Checks.same("again", w.move(0), 0);
        Checks.same("forgotten", w.wind(1, 1), 0);
        Checks.same("again", w.move(0), 0);
        Checks.same("moves then", w.count(7), 1);
    }

    private static void bread() {
        DrawerWall w = Checks.wall("home 0 0 2;shop 1 0 2;shop 2 0 2;person 0 wants 1;person 0 wants 2;person 0;");
        w.move(1);
        Checks.same("the shop alone", w.count(8), 0);
        w.move(0);
        Checks.same("together", w.count(8), 0b001);
        w.move(1);
        Checks.same("from then on", w.count(8), 0b001);
        w.move(2);
        Checks.same("both", w.count(8), 0b011);
        Checks.same("of a person", w.person(1, 3), 1);
        Checks.same("who wants none", w.person(2, 3), 0);
    }

    private static void undo() {
        DrawerWall w = Checks.wall("home 0 0 2;shop 1 0 2;person 0 wants 1;");
        Checks.same("none", w.undo(), DrawerWall.NONE);
        w.move(0);
        w.move(1);
        w.move(0);
        Checks.same("left", w.undo(), 2);
        Checks.same("bread stays", w.count(8), 1);
        Checks.same("out again", w.count(6), 3);
        w.sleeps(1, true);
        Checks.same("even if it sleeps", w.undo(), 1);
        Checks.same("bread is gone", w.count(8), 0);
        Checks.same("in again", w.count(6), 1);
        Checks.same("it still sleeps", w.count(9), 2);
        Checks.same("the first", w.undo(), 0);
        Checks.same("none any more", w.undo(), DrawerWall.NONE);
        Checks.same("nothing is refused", w.count(12), 0);
    }

    private static void sleeps() {
        DrawerWall w = Checks.wall("home 0 0 2;grave 1 0 2;");
        w.move(0);
        w.sleeps(0, true);
        w.sleeps(0, true);
        w.sleeps(1, true);
        Checks.same("bits", w.count(9), 3);
        Checks.same("it stays out", w.move(0), 2);
        w.sleeps(0, false);
        Checks.same("bits then", w.count(9), 2);
        Checks.same("it awoke", w.move(0), 0);
        Checks.noSuchElement("sleeps(2)", () -> w.sleeps(2, true));
        Checks.noSuchElement("sleeps(-1)", () -> w.sleeps(-1, false));
    }
}
