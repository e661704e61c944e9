/** The document's first paragraph of Terms: each bound of THE WALL, on both its sides. */
public final class WallBoundsTest {
    private static final String[] KINDS = {"home", "shop", "grave", "stove"};
    private static final String TEN = "wall 6 9;home 0 0 9;home 1 0 9;home 2 0 9;home 3 0 9;home 4 0 9;"
        + "shop 0 1 8;shop 1 1 8;shop 2 1 8;shop 3 1 8;shop 4 1 8;";

    public static void main(String[] args) {
        columnsAreOneToSix();
        columnsAreThreeWithout();
        storiesAreOneToNine();
        storiesAreFourWithout();
        atMostTenDrawers();
        kindsAreZeroToThree();
        columnAndStoryAreFromZeroOn();
        wideIsTheNextColumnToo();
        lengthIsOneToNine();
        noTwoInOnePlace();
        atMostFivePeople();
        eachLivesInAHome();
        eachWantsAShopOrNone();
        weightIsZeroToNinetyNine();
        weightIsOneWithout();
        reachIsOneToNine();
        reachIsTwoWithout();
        rentIsZeroToNinetyNine();
        rentIsZeroWithout();
        chanceIsZeroToThousand();
        chanceIsZeroWithout();
        Checks.end();
    }

    private static void columnsAreOneToSix() {
        Checks.fault(2, "wall @0 4;");
        for (int n = 1; n <= 6; n++) {
            Checks.same("COLUMNS " + n, Checks.wall("wall " + n + " 4;").count(0), n);
        }
        Checks.fault(2, "wall @7 4;");
        Checks.fault(2, "wall @9999 4;");
    }

    private static void columnsAreThreeWithout() {
        DrawerWall w = Checks.wall("wall 6 9;");
        Checks.same("a text without 'wall'", Checks.tell(w, "home 2 0 1;"), 0);
        Checks.same("COLUMNS without", w.count(0), 3);
        Checks.fault(2, "home @3 0 1;");
    }

    private static void storiesAreOneToNine() {
        Checks.fault(2, "wall 3 @0;");
        for (int n = 1; n <= 9; n++) {
            Checks.same("STORIES " + n, Checks.wall("wall 3 " + n + ";").count(1), n);
        }
        Checks.fault(2, "wall 3 @10;");
        Checks.fault(2, "wall 3 @9999;");
    }

    private static void storiesAreFourWithout() {
        DrawerWall w = Checks.wall("wall 6 9;");
        Checks.same("a text without 'wall'", Checks.tell(w, "home 0 3 1;"), 0);
        Checks.same("STORIES without", w.count(1), 4);
        Checks.fault(2, "home 0 @4 1;");
    }

    private static void atMostTenDrawers() {
        DrawerWall w = Checks.wall(TEN);
        Checks.same("ten", w.count(2), 10);
        Checks.same("the tenth", w.drawer(9, 1), 4);
        Checks.noSuchElement("an eleventh", () -> w.drawer(10, 1));
        for (String kind : KINDS) {
            Checks.fault(2, TEN + "@" + kind + " 5 0 1;");
        }
    }

    private static void kindsAreZeroToThree() {
        for (int kind = 0; kind <= 3; kind++) {
            Checks.same("KIND of a " + KINDS[kind], Checks.wall(KINDS[kind] + " 0 0 1;").drawer(0, 0), kind);
        }
        Checks.fault(1, "@door 0 0 1;");
    }

    private static void columnAndStoryAreFromZeroOn() {
        for (int n = 1; n <= 6; n++) {
            DrawerWall w = Checks.wall("wall " + n + " 4;home 0 0 1;home " + (n - 1) + " 3 1;");
            Checks.same("the first COLUMN of " + n, w.drawer(0, 1), 0);
            Checks.same("the last COLUMN of " + n, w.drawer(1, 1), n - 1);
            Checks.fault(2, "wall " + n + " 4;home @" + n + " 0 1;");
        }
        for (int n = 2; n <= 9; n++) {
            DrawerWall w = Checks.wall("wall 3 " + n + ";home 0 0 1;home 0 " + (n - 1) + " 1;");
            Checks.same("the lowest STORY of " + n, w.drawer(0, 2), 0);
            Checks.same("the highest STORY of " + n, w.drawer(1, 2), n - 1);
            Checks.fault(2, "wall 3 " + n + ";home 0 @" + n + " 1;");
        }
    }

    private static void wideIsTheNextColumnToo() {
        for (int n = 2; n <= 6; n++) {
            String wall = "wall " + n + " 2;";
            Checks.same("wide up to the last COLUMN of " + n,
                Checks.wall(wall + "home " + (n - 2) + " 0 1 wide;").drawer(0, 4), 1);
            Checks.fault(2, wall + "home " + (n - 1) + " 0 1 @wide;");
        }
        Checks.same("one COLUMN", Checks.wall("home 0 0 1;").drawer(0, 4), 0);
        Checks.fault(5, "home 0 0 1 wide;home 1 @0 1;");
        Checks.fine("home 0 0 1 wide;home 2 0 1;");
        Checks.fine("home 0 0 1;home 1 0 1;");
        Checks.fault(2, "wall 1 1;home 0 0 1 @wide;");
    }

    private static void lengthIsOneToNine() {
        Checks.fault(2, "home 0 0 @0;");
        for (int n = 1; n <= 9; n++) {
            Checks.same("LENGTH " + n, Checks.wall("home 0 0 " + n + ";").drawer(0, 3), n);
        }
        Checks.fault(2, "home 0 0 @10;");
    }

    private static void noTwoInOnePlace() {
        Checks.fault(5, "home 1 1 1;shop 1 @1 1;");
        Checks.fine("home 1 1 1;shop 0 1 1;shop 2 1 1;shop 1 0 1;shop 1 2 1;");
        Checks.fault(5, "home 1 1 1 wide;shop 1 @1 1;");
        Checks.fault(5, "home 1 1 1 wide;shop 2 @1 1;");
        Checks.fine("wall 4 4;home 1 1 1 wide;shop 0 1 1;shop 3 1 1;shop 1 0 1 wide;shop 1 2 1 wide;");
        Checks.fault(5, "wall 4 4;home 1 1 1 wide;shop 0 1 1 @wide;");
        Checks.fine("wall 5 4;home 2 1 1 wide;shop 0 1 1 wide;");
        Checks.fine("home 1 0 1;shop 0 1 1 wide;");
    }

    private static void atMostFivePeople() {
        String five = "home 0 0 1;person 0;person 0;person 0;person 0;person 0 weight 7;";
        DrawerWall w = Checks.wall(five);
        Checks.same("five", w.count(3), 5);
        Checks.same("the fifth", w.person(4, 2), 7);
        Checks.noSuchElement("a sixth", () -> w.person(5, 2));
        Checks.fault(2, five + "@person 0;");
    }

    private static void eachLivesInAHome() {
        Checks.fine("home 0 0 1;person 0;");
        for (int kind = 1; kind <= 3; kind++) {
            Checks.fault(5, KINDS[kind] + " 0 0 1;person @0;");
        }
    }

    private static void eachWantsAShopOrNone() {
        DrawerWall w = Checks.wall("home 0 0 1;shop 1 0 1;person 0 wants 1;person 0;");
        Checks.same("a shop", w.person(0, 1), 1);
        Checks.same("none", w.person(1, 1), DrawerWall.NONE);
        for (int kind = 0; kind <= 3; kind++) {
            if (kind != 1) {
                Checks.fault(5, "home 0 0 1;" + KINDS[kind] + " 1 0 1;person 0 wants @1;");
            }
        }
    }

    private static void weightIsZeroToNinetyNine() {
        DrawerWall w = Checks.wall("home 0 0 1;person 0 weight 0;person 0 weight 99;");
        Checks.same("the least WEIGHT", w.person(0, 2), 0);
        Checks.same("the greatest WEIGHT", w.person(1, 2), 99);
        Checks.fault(2, "home 0 0 1;person 0 weight @100;");
        Checks.fault(1, "home 0 0 1;person 0 weight @-1;");
    }

    private static void weightIsOneWithout() {
        DrawerWall w = Checks.wall("home 0 0 1;shop 1 0 1;person 0 weight 9;person 0 wants 1 weight 9;");
        Checks.same("a text without", Checks.tell(w, "home 0 0 1;shop 1 0 1;person 0;person 0 wants 1;"), 0);
        Checks.same("WEIGHT without", w.person(0, 2), 1);
        Checks.same("WEIGHT of one who WANTS", w.person(1, 2), 1);
    }

    private static void reachIsOneToNine() {
        Checks.fault(2, "reach @0;");
        for (int n = 1; n <= 9; n++) {
            Checks.same("REACH " + n, Checks.wall("reach " + n + ";").count(4), n);
        }
        Checks.fault(2, "reach @10;");
    }

    private static void reachIsTwoWithout() {
        DrawerWall w = Checks.wall("reach 9;");
        Checks.same("a text without", Checks.tell(w, "home 0 1 1;home 0 2 1;"), 0);
        Checks.same("REACH without", w.count(4), 2);
        Checks.same("below it", w.drawer(0, 6), 1);
        Checks.same("not below it", w.drawer(1, 6), 0);
    }

    private static void rentIsZeroToNinetyNine() {
        Checks.same("the least RENT", Checks.wall("rent 0 0 0;home 0 1 1;").rent(), 0);
        Checks.same("the greatest BASE", Checks.wall("rent 99 0 0;home 0 1 1;").rent(), 99);
        Checks.same("the greatest RISE", Checks.wall("rent 0 99 0;home 0 1 1;").rent(), 99);
        Checks.same("the greatest PART", Checks.wall("rent 0 0 99;home 0 1 1;").rent(), 99);
        Checks.fault(2, "rent @100 0 0;");
        Checks.fault(2, "rent 0 @100 0;");
        Checks.fault(2, "rent 0 0 @100;");
    }

    private static void rentIsZeroWithout() {
        DrawerWall w = Checks.wall("rent 99 99 99;home 0 3 9;");
        Checks.same("a text without", Checks.tell(w, "home 0 3 9;"), 0);
        Checks.same("RENT without", w.rent(), 0);
        Checks.same("of a DRAWER", w.drawer(0, 7), 0);
    }

    private static void chanceIsZeroToThousand() {
        DrawerWall never = Checks.wall("wind 0;home 0 0 9;");
        DrawerWall always = Checks.wall("wind 1000;home 0 0 1;");
        for (int seed = 0; seed < 50; seed++) {
            never.move(0);
            Checks.same("CHANCE 0 by " + seed, never.wind(seed, 1), 0);
            never.move(0);
            always.move(0);
            Checks.same("CHANCE 1000 by " + seed, always.wind(seed, 1), 1);
        }
        Checks.fault(2, "wind @1001;");
    }

    private static void chanceIsZeroWithout() {
        DrawerWall w = Checks.wall("wind 1000;home 0 0 9;");
        for (int i = 0; i < 3; i++) {
            Checks.same("a text without", Checks.tell(w, "home 0 0 9;"), 0);
            w.move(0);
            for (int seed = 0; seed < 20; seed++) {
                Checks.same("CHANCE without, by " + seed, w.wind(seed, 60), 0);
            }
        }
    }
}
