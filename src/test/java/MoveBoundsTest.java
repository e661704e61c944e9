/** The document's paragraphs of REACH, MOVES, TROUBLES and BREAD: each edge, on both its sides. */
public final class MoveBoundsTest {
    private static final int NONE = DrawerWall.NONE;

    public static void main(String[] args) {
        itsStoryIsBelowReach();
        noMoreThanReachAbove();
        aboveOneThatIsOut();
        aboveOneThatIsLower();
        inOneOfItsColumns();
        reachedInTurn();
        inIsPulledOutAndOutPushedIn();
        noSuchDrawer();
        itSleeps();
        itIsNotReached();
        whatWouldBeOutCanNotBe();
        hundredMoves();
        theLeastTrouble();
        aTroubleChangesNothingElse();
        undoneFromTheEnd();
        atFirst();
        breadTogether();
        breadFromThenOn();
        breadOfEach();
        breadUndone();
        Checks.end();
    }

    private static void itsStoryIsBelowReach() {
        for (int reach = 1; reach <= 9; reach++) {
            DrawerWall w = Checks.wall("wall 1 9;reach " + reach + ";home 0 0 1;home 0 1 1;home 0 2 1;home 0 3 1;"
                + "home 0 4 1;home 0 5 1;home 0 6 1;home 0 7 1;home 0 8 1;");
            for (int story = 0; story < 9; story++) {
                Checks.same("STORY " + story + " by REACH " + reach, w.drawer(story, 6), story < reach ? 1 : 0);
                Checks.same("moved by it", w.move(story), story < reach ? 0 : 3);
                w.undo();
            }
        }
    }

    private static void noMoreThanReachAbove() {
        for (int reach = 1; reach <= 8; reach++) {
            DrawerWall w = Checks.wall("wall 1 9;reach " + reach + ";home 0 0 9;home 0 1 1;home 0 2 1;home 0 3 1;"
                + "home 0 4 1;home 0 5 1;home 0 6 1;home 0 7 1;home 0 8 1;");
            w.move(0);
            for (int story = 1; story < 9; story++) {
                Checks.same("STORY " + story + " by REACH " + reach + " of one out",
                    w.drawer(story, 6), story <= reach ? 1 : 0);
            }
        }
        DrawerWall high = Checks.wall("wall 1 9;reach 3;home 0 2 9;home 0 5 1;home 0 6 1;");
        high.move(0);
        Checks.same("REACH above", high.drawer(1, 6), 1);
        Checks.same("one more", high.drawer(2, 6), 0);
    }

    private static void aboveOneThatIsOut() {
        DrawerWall w = Checks.wall("home 0 1 9;home 0 3 1;");
        Checks.same("it is in", w.drawer(1, 6), 0);
        w.move(0);
        Checks.same("it is out", w.drawer(1, 6), 1);
        w.move(0);
        Checks.same("it is in again", w.drawer(1, 6), 0);
    }

    private static void aboveOneThatIsLower() {
        DrawerWall w = Checks.wall("wall 2 9;reach 2;home 0 1 9;home 1 3 5;home 0 3 8;home 1 1 9;home 0 2 1;wind 125;");
        w.move(3);
        w.move(1);
        w.move(3);
        Checks.same("one of the same STORY, beside", w.drawer(2, 6), 0);
        w.move(0);
        w.move(2);
        Checks.same("out: 0, 1, 2", w.count(6), 0b00111);
        w.move(0);
        Checks.same("one that is higher carries no hand", w.drawer(4, 6), 0);
        Checks.same("nor itself", w.drawer(2, 6), 0);
    }

    private static void inOneOfItsColumns() {
        DrawerWall narrow = Checks.wall("wall 4 4;home 1 1 9 wide;home 0 3 1;home 1 3 1;home 2 3 1;home 3 3 1;");
        narrow.move(0);
        int[] due = {1, 0, 1, 1, 0};
        for (int d = 0; d < 5; d++) {
            Checks.same("above a wide one: " + d, narrow.drawer(d, 6), due[d]);
        }
        for (int d = 0; d < 4; d++) {
            DrawerWall wide = Checks.wall("wall 4 4;home 0 1 9;home 1 1 9;home 2 1 9;home 3 1 9;home 1 3 1 wide;");
            wide.move(d);
            Checks.same("a wide one above " + d, wide.drawer(4, 6), d == 1 || d == 2 ? 1 : 0);
        }
        DrawerWall both = Checks.wall("wall 3 4;home 0 1 9 wide;home 1 3 1 wide;");
        both.move(0);
        Checks.same("two wide ones with one COLUMN in common", both.drawer(1, 6), 1);
        DrawerWall apart = Checks.wall("wall 4 4;home 0 1 9 wide;home 2 3 1 wide;");
        apart.move(0);
        Checks.same("two wide ones side by side", apart.drawer(1, 6), 0);
    }

    private static void reachedInTurn() {
        DrawerWall w = Checks.wall("wall 1 9;home 0 8 1;home 0 6 3;home 0 4 5;home 0 2 7;home 0 1 9;");
        for (int d = 4; d > 0; d--) {
            w.move(d);
        }
        Checks.same("all lower ones are out", w.count(6), 0b11110);
        Checks.same("by turns", w.drawer(0, 6), 1);
        w.move(4);
        for (int d = 0; d < 4; d++) {
            Checks.same("the lowest is in: " + d, w.drawer(d, 6), 0);
        }
        Checks.same("the lowest itself", w.drawer(4, 6), 1);
        Checks.same("those that are out aren't pushed in", w.move(3), 3);
    }

    private static void inIsPulledOutAndOutPushedIn() {
        DrawerWall w = Checks.wall("home 0 0 1;home 1 0 1;");
        Checks.same("pulled out", w.move(1), 0);
        Checks.same("it is out", w.count(6), 2);
        Checks.same("of it", w.drawer(1, 5), 1);
        Checks.same("of the other", w.drawer(0, 5), 0);
        Checks.same("pushed in", w.move(1), 0);
        Checks.same("it is in", w.count(6), 0);
        Checks.same("two MOVES", w.count(7), 2);
    }

    private static void noSuchDrawer() {
        DrawerWall w = Checks.wall("home 0 0 1;home 1 0 1;");
        int[] none = {-1, 2, 10, 31, 32, 33, 64, Integer.MIN_VALUE, Integer.MAX_VALUE};
        for (int i = 0; i < none.length; i++) {
            Checks.same("move(" + none[i] + ")", w.move(none[i]), 1);
            Checks.same("refused", w.count(12), i + 1);
        }
        Checks.same("the first", w.move(0), 0);
        Checks.same("the last", w.move(1), 0);
        Checks.same("of no city", new DrawerWall().move(0), 1);
    }

    private static void itSleeps() {
        DrawerWall w = Checks.wall("home 0 0 1;home 1 0 1;");
        w.sleeps(0, true);
        Checks.same("in it isn't pulled out", w.move(0), 2);
        Checks.same("another is", w.move(1), 0);
        w.sleeps(0, false);
        Checks.same("awake it is", w.move(0), 0);
        w.sleeps(0, true);
        Checks.same("out it isn't pushed in", w.move(0), 2);
        Checks.same("nothing else", w.count(6), 3);
    }

    private static void itIsNotReached() {
        DrawerWall w = Checks.wall("home 0 1 9;home 0 2 8;");
        Checks.same("not reached", w.move(1), 3);
        Checks.same("reached", w.move(0), 0);
        Checks.same("reached then", w.move(1), 0);
    }

    private static void whatWouldBeOutCanNotBe() {
        DrawerWall w = Checks.wall("home 0 0 3;home 0 1 3;home 1 0 3;home 1 1 2;grave 2 0 1;stove 2 1 1;rule out<3 or story=0;");
        Checks.same("pulled out", w.move(0), 0);
        Checks.same("equally long", w.move(1), 4);
        Checks.same("a grave", w.move(4), 4);
        Checks.same("pulled out, too", w.move(2), 0);
        Checks.same("longer, but against the RULE", w.move(3), 4);
        Checks.same("fewer are out", w.move(0), 0);
        Checks.same("by the RULE", w.move(3), 0);
        DrawerWall stay = Checks.wall("home 0 0 3;home 1 0 3;rule column=0 or out=2;");
        stay.move(0);
        stay.move(1);
        Checks.same("what would be left can't be", stay.move(0), 4);
        Checks.same("but by the other", stay.move(1), 0);
    }

    private static DrawerWall movedOften(int moves) {
        DrawerWall w = Checks.wall("home 0 0 1;grave 1 0 1;home 0 3 1;home 1 1 1;");
        for (int i = 0; i < moves; i++) {
            Checks.same("move " + (i + 1), w.move(0), 0);
        }
        return w;
    }

    private static void hundredMoves() {
        DrawerWall w = movedOften(99);
        Checks.same("the hundredth", w.move(0), 0);
        Checks.same("there are", w.count(7), 100);
        Checks.same("the next", w.move(0), 5);
        Checks.same("another", w.move(3), 5);
        Checks.same("there still are", w.count(7), 100);
        Checks.same("refused", w.count(12), 2);
        Checks.same("UNDONE", w.undo(), 99);
        Checks.same("one more", w.move(3), 0);
        Checks.same("no more", w.move(3), 5);
        for (int i = 99; i >= 0; i--) {
            Checks.same("UNDONE to " + i, w.undo(), i);
        }
        Checks.same("all are in", w.count(6), 0);
    }

    private static void theLeastTrouble() {
        DrawerWall w = movedOften(100);
        Checks.same("5 alone", w.move(0), 5);
        Checks.same("4 and 5", w.move(1), 4);
        Checks.same("3 and 5", w.move(2), 3);
        w.sleeps(0, true);
        Checks.same("2 and 5", w.move(0), 2);
        w.sleeps(1, true);
        Checks.same("2, 4 and 5", w.move(1), 2);
        w.sleeps(2, true);
        Checks.same("2, 3 and 5", w.move(2), 2);
        Checks.same("1 and 5", w.move(4), 1);
        DrawerWall v = Checks.wall("grave 0 3 1;grave 0 0 1;");
        Checks.same("3 and 4", v.move(0), 3);
        Checks.same("4", v.move(1), 4);
        v.sleeps(0, true);
        v.sleeps(1, true);
        Checks.same("2, 3 and 4", v.move(0), 2);
        Checks.same("2 and 4", v.move(1), 2);
    }

    private static void aTroubleChangesNothingElse() {
        DrawerWall w = Checks.wall("home 0 0 2;home 0 3 1;shop 1 0 1;grave 2 0 1;person 0 wants 2;");
        w.move(0);
        w.sleeps(2, true);
        w.opens(0);
        int[] moves = {-1, 2, 1, 3};
        for (int i = 0; i < moves.length; i++) {
            String was = Checks.all(w);
            Checks.same("trouble", w.move(moves[i]), i + 1);
            String due = was.replaceFirst(" 0 " + i + "  ", " 0 " + (i + 1) + "  ");
            Checks.stays("trouble " + (i + 1), w, due);
        }
        Checks.same("the MOVE ahead is UNDONE", w.undo(), 0);
    }

    private static void undoneFromTheEnd() {
        DrawerWall w = Checks.wall("home 0 0 1;home 1 0 1;home 2 0 1;");
        Checks.same("none", w.undo(), NONE);
        w.move(2);
        w.move(0);
        w.move(9);
        w.move(1);
        w.move(2);
        int[] due = {0b111, 0b101, 0b100, 0b000};
        for (int left = 3; left >= 0; left--) {
            Checks.same("left", w.undo(), left);
            Checks.same("MOVES", w.count(7), left);
            Checks.same("out", w.count(6), due[3 - left]);
        }
        Checks.same("none any more", w.undo(), NONE);
        Checks.same("out then", w.count(6), 0);
        Checks.same("a refused MOVE isn't UNDONE", w.count(12), 1);
    }

    private static void atFirst() {
        DrawerWall w = Checks.wall("home 0 0 1;shop 1 0 1;person 0 wants 1;");
        Checks.same("all are in", w.count(6), 0);
        Checks.same("none sleeps", w.count(9), 0);
        Checks.same("no MOVES", w.count(7), 0);
        Checks.same("no bread", w.count(8), 0);
        Checks.same("not HURT", w.person(0, 4), 0);
    }

    private static void breadTogether() {
        String text = "home 0 0 1;shop 1 0 1;home 2 0 1;person 0 wants 1;";
        DrawerWall homeFirst = Checks.wall(text);
        homeFirst.move(0);
        Checks.same("the home alone", homeFirst.count(8), 0);
        homeFirst.move(1);
        Checks.same("then the shop", homeFirst.count(8), 1);
        DrawerWall shopFirst = Checks.wall(text);
        shopFirst.move(1);
        Checks.same("the shop alone", shopFirst.count(8), 0);
        shopFirst.move(2);
        Checks.same("another home", shopFirst.count(8), 0);
        shopFirst.move(0);
        Checks.same("then the home", shopFirst.person(0, 3), 1);
        DrawerWall inTurn = Checks.wall(text);
        inTurn.move(0);
        inTurn.move(0);
        inTurn.move(1);
        Checks.same("one behind the other, not together", inTurn.count(8), 0);
    }

    private static void breadFromThenOn() {
        DrawerWall w = Checks.wall("home 0 0 1;shop 1 0 1;person 0 wants 1;wind 1000;");
        w.move(0);
        w.move(1);
        w.move(0);
        Checks.same("the home is in", w.count(8), 1);
        w.move(1);
        Checks.same("both are in", w.count(8), 1);
        w.move(1);
        w.wind(1, 1);
        Checks.same("behind WIND", w.count(8), 1);
        Checks.same("all are in", w.count(6), 0);
    }

    private static void breadOfEach() {
        DrawerWall w = Checks.wall("home 0 0 1;shop 1 0 1;shop 2 0 1;home 0 1 1;person 0 wants 1;person 0 wants 2;person 0;"
            + "person 3 wants 1;person 0 wants 1;");
        w.move(0);
        w.move(1);
        Checks.same("all who live there and WANT it", w.count(8), 0b10001);
        w.move(2);
        Checks.same("who WANTS another", w.count(8), 0b10011);
        Checks.same("who WANTS none", w.person(2, 3), 0);
        Checks.same("who lives elsewhere", w.person(3, 3), 0);
        Checks.same("the last", w.person(4, 3), 1);
    }

    private static void breadUndone() {
        DrawerWall w = Checks.wall("home 0 0 1;shop 1 0 1;shop 2 0 1;person 0 wants 1;person 0 wants 2;");
        w.move(0);
        w.move(1);
        w.move(2);
        w.move(1);
        int[] due = {0b11, 0b01, 0b00, 0b00};
        for (int i = 0; i < due.length; i++) {
            w.undo();
            Checks.same("bread behind " + (i + 1) + " that are UNDONE", w.count(8), due[i]);
        }
    }
}
