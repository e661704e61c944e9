/** The document's paragraphs of HOW SOON, THE ROW, HARM and MARRIED: each edge, on both its sides. */
public final class SoonBoundsTest {
    private static final int NONE = DrawerWall.NONE;
    private static final int UNMARRIED = NONE - 100;
    private static final String LADDER = "wall 1 9;home 0 1 8;home 0 3 6;home 0 5 4;home 0 7 2;";

    public static void main(String[] args) {
        outAlready();
        inAlready();
        allHaveBreadAlready();
        byTheFewestMoves();
        fromNowOn();
        laterIfNotNow();
        sleepersStaySo();
        neverOut();
        neverIn();
        neverBread();
        whatIsKeptStays();
        theFirstAsARow();
        aLongRow();
        behindWind();
        behindHundredMoves();
        searchingChangesNothing();
        harmOfOthers();
        harmOfTheLeastNumber();
        harmAsItIsNow();
        harmOfOneThatCanNotMove();
        sideBySide();
        ofOneStory();
        onlyHomes();
        neitherIsWide();
        neitherIsOut();
        neitherSleeps();
        theLengthOfTheLongerOne();
        inPlaceOfBoth();
        bothWhoLiveThere();
        theOtherNumberIsNoDrawer();
        allElseIsAsItWas();
        laterOrSooner();
        allDoNotHaveBread();
        marryingChangesNothing();
        Checks.end();
    }

    private static void outAlready() {
        DrawerWall w = Checks.wall(LADDER);
        w.move(0);
        Checks.same("it is", w.opens(0), 0);
        Checks.row("it is", w);
        w.sleeps(0, true);
        Checks.same("though it sleeps", w.opens(0), 0);
        Checks.same("the next", w.opens(1), 1);
        Checks.row("the next", w, 1);
    }

    private static void inAlready() {
        DrawerWall w = Checks.wall("grave 0 0 1;home 0 3 1;home 1 0 1;");
        for (int d = 0; d < 3; d++) {
            Checks.same("it is", w.shuts(d), 0);
            Checks.row("it is", w);
        }
        w.move(2);
        Checks.same("it isn't any more", w.shuts(2), 1);
        Checks.row("it isn't any more", w, 2);
    }

    private static void allHaveBreadAlready() {
        Checks.same("no PEOPLE", new DrawerWall().bread(), 0);
        Checks.same("nobody WANTS a shop", Checks.wall("home 0 0 1;person 0;").bread(), 0);
        DrawerWall w = Checks.wall("home 0 0 1;shop 1 0 1;person 0 wants 1;person 0;");
        Checks.same("one does", w.bread(), 2);
        w.move(0);
        Checks.same("not yet", w.bread(), 1);
        w.move(1);
        Checks.same("he has it", w.bread(), 0);
        Checks.row("he has it", w);
        w.move(1);
        Checks.same("from then on", w.bread(), 0);
    }

    private static void byTheFewestMoves() {
        DrawerWall w = Checks.wall(LADDER);
        for (int d = 0; d < 4; d++) {
            Checks.same("opens(" + d + ")", w.opens(d), d + 1);
        }
        DrawerWall twoWays = Checks.wall("wall 2 9;home 0 1 8;home 0 3 6;home 1 1 3;home 1 2 2;home 0 5 1 wide;reach 3;");
        Checks.same("the shorter way", twoWays.opens(4), 2);
        Checks.row("the shorter way", twoWays, 3, 4);
        twoWays.sleeps(3, true);
        Checks.same("the longer way", twoWays.opens(4), 3);
        Checks.row("the longer way", twoWays, 0, 1, 4);
    }

    private static void fromNowOn() {
        DrawerWall w = Checks.wall(LADDER);
        for (int d = 0; d < 4; d++) {
            Checks.same("behind " + d + " moves", w.opens(3), 4 - d);
            w.move(d);
        }
        Checks.same("behind four", w.opens(3), 0);
        w.undo();
        Checks.same("behind one that is UNDONE", w.opens(3), 1);
    }

    private static void laterIfNotNow() {
        DrawerWall w = Checks.wall("home 0 0 1;home 0 1 2;home 0 2 1;");
        w.move(0);
        Checks.same("it can't be now", w.move(1), 4);
        Checks.same("it may be later", w.opens(1), 2);
        Checks.row("it may be later", w, 0, 1);
        Checks.same("it isn't reached now", w.opens(2), 3);
        Checks.row("it isn't reached now", w, 0, 1, 2);
    }

    private static void sleepersStaySo() {
        DrawerWall w = Checks.wall(LADDER);
        w.sleeps(1, true);
        Checks.same("a sleeper", w.opens(1), NONE);
        Checks.same("behind a sleeper", w.opens(2), NONE);
        Checks.same("ahead of a sleeper", w.opens(0), 1);
        w.sleeps(1, false);
        w.move(0);
        w.move(1);
        w.sleeps(1, true);
        Checks.same("over a sleeper that is out", w.opens(2), 1);
        Checks.same("a sleeper isn't pushed in", w.shuts(1), NONE);
        w.sleeps(1, false);
        Checks.same("one who awoke is", w.shuts(1), 1);
    }

    private static void neverOut() {
        DrawerWall w = Checks.wall("grave 0 0 1;home 1 3 1;home 2 0 1;home 1 0 1;rule not column=2;");
        Checks.same("a grave", w.opens(0), NONE);
        Checks.same("not reached", w.opens(1), NONE);
        Checks.same("against a RULE", w.opens(2), NONE);
        Checks.same("another", w.opens(3), 1);
    }

    private static void neverIn() {
        DrawerWall w = Checks.wall("home 0 1 2;home 0 3 1;home 1 0 1;");
        w.move(0);
        w.move(1);
        Checks.same("at once", w.shuts(1), 1);
        w.move(0);
        Checks.same("by way of another", w.shuts(1), 2);
        Checks.row("by way of another", w, 0, 1);
        w.sleeps(0, true);
        Checks.same("never", w.shuts(1), NONE);
    }

    private static void neverBread() {
        String two = "home 0 0 1;shop 0 1 1;shop 1 0 1;person 0 wants 2;";
        Checks.same("he has it soon", Checks.wall(two).bread(), 2);
        Checks.same("another never does", Checks.wall(two + "person 0 wants 1;").bread(), NONE);
        DrawerWall w = Checks.wall(two);
        w.sleeps(2, true);
        Checks.same("the shop sleeps, in", w.bread(), NONE);
        w.sleeps(2, false);
        w.move(2);
        w.sleeps(2, true);
        Checks.same("the shop sleeps, out", w.bread(), 1);
        w.sleeps(0, true);
        Checks.same("so does the home", w.bread(), NONE);
    }

    private static void whatIsKeptStays() {
        DrawerWall w = Checks.wall("home 0 0 3;home 1 0 3;grave 2 0 3;shop 0 3 1;person 0 wants 3;");
        Checks.same("never", w.opens(2), NONE);
        Checks.noSuchElement("none was kept", () -> w.row(NONE));
        Checks.same("once", w.opens(1), 1);
        Checks.row("once", w, 1);
        Checks.same("never out", w.opens(2), NONE);
        Checks.row("never out", w, 1);
        Checks.same("never bread", w.bread(), NONE);
        Checks.row("never bread", w, 1);
        w.move(0);
        w.sleeps(0, true);
        Checks.same("never in", w.shuts(0), NONE);
        Checks.row("never in", w, 1);
        Checks.noSuchElement("no such DRAWER out", () -> w.opens(4));
        Checks.noSuchElement("no such DRAWER in", () -> w.shuts(4));
        Checks.row("no such DRAWER", w, 1);
        Checks.same("at once", w.shuts(1), 0);
        Checks.row("an empty one in its place", w);
    }

    private static void theFirstAsARow() {
        DrawerWall w = Checks.wall("home 2 1 9;home 1 1 9;home 0 1 9;home 0 3 1 wide;");
        Checks.same("two ways", w.opens(3), 2);
        Checks.row("the first of them", w, 1, 3);
        DrawerWall pair = Checks.wall("home 0 0 1;home 1 0 1;shop 2 0 1;person 0 wants 2;person 1 wants 2;");
        Checks.same("six ways", pair.bread(), 3);
        Checks.row("the first of them", pair, 0, 1, 2);
        DrawerWall full = Checks.wall("home 2 0 1;home 1 0 1;home 0 0 1;home 0 1 1;rule out<3;");
        full.move(0);
        full.move(1);
        Checks.same("one must be in", full.opens(2), 2);
        Checks.row("the least of them", full, 0, 2);
        full.sleeps(0, true);
        Checks.same("the other must", full.opens(2), 2);
        Checks.row("the other must", full, 1, 2);
    }

    /** Five pairs, of which one may be out at a time: 10 MOVES out and 8 in. */
    private static void aLongRow() {
        DrawerWall w = Checks.wall("wall 6 9;home 0 0 9;home 1 0 9;home 2 0 9;home 3 0 9;home 4 0 9;shop 0 1 8;shop 1 1 8;"
            + "shop 2 1 8;shop 3 1 8;shop 4 1 8;person 0 wants 5;person 1 wants 6;person 2 wants 7;person 3 wants 8;"
            + "person 4 wants 9;rule out<3;");
        Checks.same("eighteen", w.bread(), 18);
        Checks.row("eighteen", w, 0, 5, 0, 1, 5, 6, 1, 2, 6, 7, 2, 3, 7, 8, 3, 4, 8, 9);
        for (int i = 0; i < 18; i++) {
            Checks.same("its move " + i, w.move(w.row(i)), 0);
            Checks.same("all have bread behind " + i, w.count(8) == 31, i == 17);
        }
        Checks.noSuchElement("no nineteenth", () -> w.row(18));
    }

    private static void behindWind() {
        DrawerWall w = Checks.wall("wall 2 9;home 0 1 9;home 0 3 1;home 1 0 1;home 1 1 1;wind 111;");
        w.move(0);
        w.move(1);
        int seed = 0;
        while (firstDraw(seed) >= 999 || secondDraw(seed) < 111) {
            seed++;
        }
        Checks.same("the long one is slammed in", w.wind(seed, 1), 1);
        Checks.same("the high one is out", w.count(6), 0b0010);
        Checks.same("how soon it is in", w.shuts(1), 2);
        Checks.row("how soon it is in", w, 0, 1);
        w.sleeps(0, true);
        Checks.same("never", w.shuts(1), NONE);
    }

    private static int firstDraw(int seed) {
        return (seed * 1103515245 + 12345 >>> 16 & 0x7fff) % 1000;
    }

    private static int secondDraw(int seed) {
        return firstDraw(seed * 1103515245 + 12345);
    }

    private static void behindHundredMoves() {
        DrawerWall w = Checks.wall(LADDER);
        for (int i = 0; i < 100; i++) {
            w.move(0);
        }
        Checks.same("no more MOVES", w.move(0), 5);
        Checks.same("it isn't asked how many there were", w.opens(1), 2);
        Checks.row("nor by the row", w, 0, 1);
    }

    private static void searchingChangesNothing() {
        DrawerWall w = Checks.wall(LADDER + "shop 0 0 9;person 0 wants 4;");
        w.move(0);
        w.sleeps(1, true);
        String was = Checks.all(w);
        w.opens(2);
        w.harm(0);
        w.married(0, 1);
        Checks.stays("what finds no row", w, was);
        w.opens(4);
        w.shuts(0);
        w.bread();
        Checks.same("out", w.count(6), 1);
        Checks.same("MOVES", w.count(7), 1);
        Checks.same("bread", w.count(8), 0);
        Checks.same("sleepers", w.count(9), 2);
        Checks.same("refused", w.count(12), 0);
    }

    private static void harmOfOthers() {
        DrawerWall w = Checks.wall("wall 2 9;home 0 1 8;home 0 3 6;home 0 5 4;home 0 7 2;grave 1 0 1;");
        int[] due = {3, 2, 1, 0, 0};
        for (int d = 0; d < due.length; d++) {
            Checks.same("harm(" + d + ")", w.harm(d), due[d]);
            w.sleeps(d, true);
            Checks.same("harm(" + d + ") of one that sleeps", w.harm(d), due[d]);
            Checks.same("it sleeps on", w.count(9), 1 << d);
            w.sleeps(d, false);
        }
        w.sleeps(2, true);
        Checks.same("others that sleep do so", w.harm(0), 1);
        Checks.same("without others", Checks.wall("home 0 0 1;").harm(0), 0);
    }

    private static void harmOfTheLeastNumber() {
        DrawerWall w = Checks.wall("wall 1 9;home 0 5 4;home 0 3 6;home 0 1 8;");
        int[] due = {0, 1, 2};
        for (int d = 0; d < due.length; d++) {
            Checks.same("harm(" + d + ") of a ladder from its end", w.harm(d), due[d]);
        }
    }

    private static void harmAsItIsNow() {
        DrawerWall below = Checks.wall(LADDER);
        below.move(0);
        Checks.same("out it carries", below.harm(0), 0);
        below.move(0);
        Checks.same("in it doesn't", below.harm(0), 3);
        DrawerWall barrier = Checks.wall("home 0 0 1;home 0 1 2;home 0 3 1;");
        barrier.move(0);
        Checks.same("out it is in the way", barrier.harm(0), 2);
        barrier.move(0);
        Checks.same("in it isn't", barrier.harm(0), 0);
    }

    private static void harmOfOneThatCanNotMove() {
        DrawerWall w = Checks.wall("home 0 3 1;grave 1 0 1;home 1 1 1;");
        for (int d = 0; d < 3; d++) {
            Checks.same("harm(" + d + ")", w.harm(d), 0);
        }
    }

    private static void sideBySide() {
        DrawerWall w = Checks.wall("wall 6 4;home 0 0 1;home 1 0 1;home 3 0 1;home 5 0 1;home 4 0 1;");
        Checks.same("side by side", w.married(0, 1), 0);
        Checks.same("the other way", w.married(1, 0), 0);
        Checks.same("two apart", w.married(1, 2), UNMARRIED);
        Checks.same("two apart, the other way", w.married(2, 1), UNMARRIED);
        Checks.same("far apart", w.married(0, 3), UNMARRIED);
        Checks.same("with itself", w.married(0, 0), UNMARRIED);
        Checks.same("the last COLUMNS", w.married(3, 4), 0);
    }

    private static void ofOneStory() {
        DrawerWall w = Checks.wall("home 0 1 1;home 1 0 1;home 1 1 1;home 1 2 1;home 0 0 1;");
        Checks.same("one STORY", w.married(0, 2), 0);
        Checks.same("one lower", w.married(0, 1), UNMARRIED);
        Checks.same("one higher", w.married(0, 3), UNMARRIED);
        Checks.same("above", w.married(0, 4), UNMARRIED);
    }

    private static void onlyHomes() {
        String[] kinds = {"home", "shop", "grave", "stove"};
        for (String kind : kinds) {
            DrawerWall w = Checks.wall("home 0 0 1;" + kind + " 1 0 1;");
            Checks.same("with a " + kind, w.married(0, 1), kind.equals("home") ? 0 : UNMARRIED);
            Checks.same("of a " + kind, w.married(1, 0), kind.equals("home") ? 0 : UNMARRIED);
        }
        Checks.same("two shops", Checks.wall("shop 0 0 1;shop 1 0 1;").married(0, 1), UNMARRIED);
    }

    private static void neitherIsWide() {
        DrawerWall w = Checks.wall("wall 6 4;home 0 0 1;home 1 0 1 wide;home 3 0 1;home 4 0 1;");
        Checks.same("with a wide one", w.married(0, 1), UNMARRIED);
        Checks.same("of a wide one", w.married(1, 0), UNMARRIED);
        Checks.same("right of a wide one", w.married(1, 2), UNMARRIED);
        Checks.same("with a wide one on the left", w.married(2, 1), UNMARRIED);
        Checks.same("narrow ones", w.married(2, 3), 0);
    }

    private static void neitherIsOut() {
        DrawerWall w = Checks.wall("home 0 0 1;home 1 0 1;home 2 0 1;");
        w.move(0);
        Checks.same("the first is out", w.married(0, 1), UNMARRIED);
        Checks.same("the second is out", w.married(1, 0), UNMARRIED);
        Checks.same("another is out", w.married(1, 2), 0);
        w.move(0);
        Checks.same("none is out", w.married(0, 1), 0);
    }

    private static void neitherSleeps() {
        DrawerWall w = Checks.wall("home 0 0 1;home 1 0 1;home 2 0 1;");
        w.sleeps(0, true);
        Checks.same("the first sleeps", w.married(0, 1), UNMARRIED);
        Checks.same("the second sleeps", w.married(1, 0), UNMARRIED);
        Checks.same("another sleeps", w.married(1, 2), 0);
        w.sleeps(0, false);
        Checks.same("none sleeps", w.married(0, 1), 0);
    }

    /** A shop below both is longer than the longer one, or not. */
    private static void theLengthOfTheLongerOne() {
        for (int length = 3; length <= 6; length++) {
            DrawerWall w = Checks.wall("home 0 1 2;home 1 1 4;shop 0 0 " + length + ";person 0 wants 2;");
            int due = length > 4 ? 0 : UNMARRIED;
            Checks.same("the longer one is the second, " + length, w.married(0, 1), due);
            Checks.same("the longer one is the first, " + length, w.married(1, 0), due);
        }
        DrawerWall above = Checks.wall("home 0 0 2;home 1 0 4;shop 1 1 3;person 1 wants 2;");
        Checks.same("longer than the one above", above.married(0, 1), 0);
    }

    private static void inPlaceOfBoth() {
        DrawerWall w = Checks.wall("home 0 1 2;home 1 1 2;shop 2 0 1;stove 1 0 1;person 0 wants 2;");
        w.move(3);
        Checks.same("the stove below the other is in the way", w.married(0, 1), 1);
        Checks.same("either way", w.married(1, 0), 1);
        DrawerWall foot = Checks.wall("home 0 1 2;home 1 1 2;shop 1 3 1;person 0 wants 2;");
        Checks.same("alone he needs the other's home", foot.bread(), 3);
        Checks.same("married he stands on his own", foot.married(0, 1), -1);
        DrawerWall column = Checks.wall("home 0 0 2;home 1 0 2;shop 2 0 1;person 1 wants 2;rule 0<column;");
        Checks.same("its COLUMN is the lower one", column.married(1, 0), UNMARRIED);
        Checks.same("alone he may", column.bread(), 2);
    }

    private static void bothWhoLiveThere() {
        DrawerWall w = Checks.wall("home 0 0 2;home 1 0 2;shop 2 0 1;person 0 wants 2;person 1 wants 2;");
        Checks.same("one MOVE for both", w.married(0, 1), -1);
        Checks.same("the other way", w.married(1, 0), -1);
        DrawerWall more = Checks.wall("home 0 0 2;home 1 0 2;shop 2 0 1;shop 2 1 1;person 0 wants 2;person 0 wants 2;"
            + "person 1 wants 2;person 1;person 1 wants 2;");
        Checks.same("all of them", more.married(0, 1), -1);
    }

    private static void theOtherNumberIsNoDrawer() {
        DrawerWall w = Checks.wall("home 0 0 5;home 1 0 5;shop 2 0 5;person 0 wants 2;rule kind=0 or 2<out;");
        Checks.same("three are out", w.bread(), 3);
        Checks.same("only two can be", w.married(0, 1), UNMARRIED);
        Checks.same("the other way", w.married(1, 0), UNMARRIED);
        DrawerWall below = Checks.wall("home 0 1 5;home 1 1 5;stove 0 0 9 wide;shop 2 0 1;person 0 wants 3;"
            + "rule not story=0 or above<2;");
        below.move(2);
        Checks.same("it isn't above another, too", below.married(0, 1), 0);
    }

    /** All else is as it was: RULES, REACH, STORIES, wide ones. */
    private static void allElseIsAsItWas() {
        String four = "home 0 0 5;home 1 0 3;shop 2 0 5;person 1 wants 2;rule out<3;rule 1;rule column<3;rule length=";
        Checks.same("against the fourth RULE", Checks.wall(four + "3 or kind=1;").married(0, 1), UNMARRIED);
        Checks.same("by the fourth RULE", Checks.wall(four + "5 or kind=0;").married(0, 1), 0);
        String high = "wall 3 9;home 0 2 5;home 1 2 4;shop 1 6 3;person 1 wants 2;reach ";
        Checks.same("by a REACH of 4", Checks.wall(high + "4;").married(0, 1), 0);
        Checks.same("by a REACH of 3", Checks.wall(high + "3;").married(0, 1), UNMARRIED);
        DrawerWall wide = Checks.wall("wall 4 9;home 0 2 5;home 1 2 4;stove 1 0 9 wide;shop 2 2 3;person 1 wants 3;reach 2;");
        Checks.same("over a wide one", wide.bread(), 3);
        Checks.same("over a wide one, married", wide.married(0, 1), 0);
    }

    private static void laterOrSooner() {
        DrawerWall same = Checks.wall("home 0 0 2;home 1 0 2;shop 2 0 1;person 0 wants 2;");
        Checks.same("as soon", same.married(0, 1), 0);
        DrawerWall sooner = Checks.wall("home 0 0 2;home 1 0 2;shop 2 0 1;person 0 wants 2;person 1 wants 2;");
        Checks.same("sooner", sooner.married(0, 1), -1);
        sooner.move(2);
        Checks.same("from now on", sooner.married(0, 1), -1);
        sooner.move(0);
        sooner.move(0);
        Checks.same("one has it already", sooner.married(0, 1), 0);
        sooner.move(1);
        sooner.move(1);
        Checks.same("both have it already", sooner.married(0, 1), 0);
        DrawerWall later = Checks.wall("home 0 1 3;home 1 1 3;shop 2 0 1;stove 0 0 1;stove 1 0 1;person 0 wants 2;");
        later.move(4);
        Checks.same("later by one", later.married(0, 1), 1);
        later.move(3);
        Checks.same("both stoves", later.married(0, 1), 1);
    }

    private static void allDoNotHaveBread() {
        String homes = "home 0 0 2;home 1 0 2;";
        Checks.same("nobody WANTS it", Checks.wall(homes + "person 0;").married(0, 1), 0);
        DrawerWall never = Checks.wall(homes + "shop 2 3 1;person 0 wants 2;");
        Checks.same("neither way", never.married(0, 1), UNMARRIED);
        DrawerWall unwed = Checks.wall("home 0 1 2;home 1 1 2;shop 2 0 1;stove 1 0 1;person 0 wants 2;");
        unwed.move(3);
        unwed.sleeps(3, true);
        Checks.same("alone", unwed.bread(), 2);
        Checks.same("not if they marry", unwed.married(0, 1), UNMARRIED);
        DrawerWall wed = Checks.wall("home 0 0 2;home 1 0 3;shop 2 0 1;person 0 wants 2;rule not length=2;");
        Checks.same("not alone", wed.bread(), NONE);
        Checks.same("only if they marry", wed.married(0, 1), UNMARRIED);
    }

    private static void marryingChangesNothing() {
        DrawerWall w = Checks.wall("home 0 0 2;home 1 0 3;shop 2 0 1;person 0 wants 2;person 1 wants 2;rent 1 2 3;wind 5;");
        w.opens(2);
        w.image();
        String was = Checks.all(w);
        Checks.same("they marry", w.married(0, 1), -1);
        Checks.stays("they marry", w, was);
        Checks.same("they can't", w.married(0, 2), UNMARRIED);
        Checks.stays("they can't", w, was);
        Checks.same("RENT", w.rent(), 21);
        Checks.same("bread", w.bread(), 3);
        Checks.same("the image", w.restore(), true);
        Checks.same("a text behind it", Checks.tell(w, "home 0 0 1;"), 0);
        Checks.same("is anew", w.count(2), 1);
    }
}
