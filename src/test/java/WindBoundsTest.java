/** The document's paragraphs of RENT, WIND, WHO PUSHED, STATUS and AN IMAGE: each edge, on both its sides. */
public final class WindBoundsTest {
    private static final int NONE = DrawerWall.NONE;
    private static final int[] SEEDS = {0, 1, -1, 2, 12345, 65535, 65536, 1103515245, -1103515245, 1 << 30, Integer.MIN_VALUE,
        Integer.MAX_VALUE, Integer.MAX_VALUE - 1, Integer.MIN_VALUE + 1, 987654321, -987654321, 4711, -4711};

    public static void main(String[] args) {
        rentByStoryAndLength();
        rentOfAWideOne();
        gravesPayNone();
        rentOfAllTogether();
        aDrawIsBelowChanceByLength();
        theSeedWraps();
        aDrawForEachThatIsOut();
        theLeastFirst();
        hourByHour();
        noHourAndSixty();
        whateverSleeps();
        whateverIsOutThen();
        hurtIfItSleeps();
        hurtEachTime();
        nobodyComesByBread();
        movesAheadAreForgotten();
        whoseHomeIsOut();
        anotherHome();
        atMostReachStoriesAway();
        atMostOneColumnAway();
        ofWideOnesTheNearestColumns();
        whoOfADrawerThatIsIn();
        oddsByWeights();
        oddsInLowestTerms();
        oddsIfNobodyCould();
        oddsIfWeightsAreZero();
        statusCountsTexts();
        statusCountsMoves();
        anImageKeeps();
        anImageKeepsWhatIsUndone();
        anImageInPlaceOfAnother();
        noImage();
        Checks.end();
    }

    private static void rentByStoryAndLength() {
        DrawerWall w = Checks.wall("wall 1 9;rent 5 7 11;home 0 0 1;shop 0 1 1;stove 0 8 9;");
        Checks.same("the lowest STORY", w.drawer(0, 7), 5 + 11);
        Checks.same("the next", w.drawer(1, 7), 5 + 7 + 11);
        Checks.same("the highest", w.drawer(2, 7), 5 + 8 * 7 + 9 * 11);
        DrawerWall most = Checks.wall("wall 2 9;rent 99 99 99;home 0 8 9 wide;");
        Checks.same("the most", most.rent(), 2 * 99 * 18);
    }

    private static void rentOfAWideOne() {
        DrawerWall w = Checks.wall("rent 5 7 11;home 0 1 2;home 1 1 2 wide;");
        Checks.same("a narrow one", w.drawer(0, 7), 34);
        Checks.same("twice all that", w.drawer(1, 7), 68);
    }

    private static void gravesPayNone() {
        DrawerWall w = Checks.wall("rent 5 7 11;grave 0 1 2;grave 1 1 2 wide;home 0 0 1;");
        Checks.same("a grave", w.drawer(0, 7), 0);
        Checks.same("a wide grave", w.drawer(1, 7), 0);
        Checks.same("all together", w.rent(), 16);
    }

    private static void rentOfAllTogether() {
        Checks.same("no DRAWERS", Checks.wall("rent 5 7 11;").rent(), 0);
        DrawerWall w = Checks.wall("rent 1 0 0;home 0 0 1;shop 1 0 1;stove 2 0 1;home 0 1 1 wide;");
        Checks.same("four", w.rent(), 5);
        w.move(0);
        w.sleeps(1, true);
        Checks.same("out or in, asleep or not", w.rent(), 5);
    }

    /** What a seed becomes, counted without ints that wrap. */
    private static long next(long seed) {
        return Math.floorMod(Math.floorMod(seed, 1L << 32) * 1103515245L + 12345L, 1L << 32);
    }

    private static int draw(long seed) {
        return (int) (seed / 65536 % 32768 % 1000);
    }

    private static int slammed(int chance, int length, int seed) {
        DrawerWall w = Checks.wall("wind " + chance + ";home 0 0 " + length + ";");
        w.move(0);
        return w.wind(seed, 1);
    }

    private static void aDrawIsBelowChanceByLength() {
        for (int seed : SEEDS) {
            int draw = draw(next(seed));
            Checks.same("DRAW " + draw + " is not below itself", slammed(draw, 1, seed), 0);
            Checks.same("DRAW " + draw + " is below one more", slammed(draw + 1, 1, seed), 1);
            for (int length = 2; length <= 9; length++) {
                int chance = draw / length;
                Checks.same("DRAW " + draw + " by LENGTH " + length, slammed(chance, length, seed), 0);
                Checks.same("and by one CHANCE more", slammed(chance + 1, length, seed), 1);
            }
        }
    }

    /** The HOUR in which a DRAWER is slammed in tells the whole row of seeds ahead of it. */
    private static void theSeedWraps() {
        for (int seed : SEEDS) {
            long at = next(seed);
            int hours = 1;
            while (draw(at) >= 100 && hours < 60) {
                at = next(at);
                hours++;
            }
            int due = draw(at) < 100 ? 1 : 0;
            Checks.same("an HOUR fewer by " + seed, windOf(seed, hours - 1), 0);
            Checks.same(hours + " HOURS by " + seed, windOf(seed, hours), due);
        }
    }

    private static int windOf(int seed, int hours) {
        DrawerWall w = Checks.wall("wind 100;home 0 0 1;");
        w.move(0);
        return w.wind(seed, hours);
    }

    private static void aDrawForEachThatIsOut() {
        for (int seed : SEEDS) {
            int first = draw(next(seed));
            DrawerWall w = Checks.wall("wind " + (first + 1) + ";home 0 0 1;home 1 0 1;home 2 0 1;");
            w.move(1);
            Checks.same("one that is in draws nothing, by " + seed, w.wind(seed, 1), 1);
            DrawerWall v = Checks.wall("wind " + first + ";home 0 0 1;home 1 0 1;home 2 0 1;");
            v.move(1);
            Checks.same("nor the other way, by " + seed, v.wind(seed, 1), 0);
        }
    }

    private static void theLeastFirst() {
        for (int seed : SEEDS) {
            long at = next(seed);
            int first = draw(at);
            int second = draw(next(at));
            int chance = Math.min(1000, Math.min(first, second) + 1);
            DrawerWall w = Checks.wall("wind " + chance + ";home 2 0 1;home 1 0 1;home 0 0 1;");
            w.move(2);
            w.move(0);
            int due = (first < chance ? 0 : 0b001) | (second < chance ? 0 : 0b100);
            w.wind(seed, 1);
            Checks.same("by " + seed, w.count(6), due);
        }
    }

    private static void hourByHour() {
        for (int seed : SEEDS) {
            for (int hours = 1; hours <= 60; hours += 7) {
                DrawerWall w = Checks.wall("wind 9;home 0 0 3;shop 1 0 1;stove 2 0 9;");
                w.move(0);
                w.move(1);
                w.move(2);
                int[] length = {3, 1, 9};
                int out = 0b111;
                long at = seed;
                for (int hour = 0; hour < hours; hour++) {
                    for (int d = 0; d < 3; d++) {
                        if ((out & 1 << d) != 0) {
                            at = next(at);
                            out = draw(at) < 9 * length[d] ? out & ~(1 << d) : out;
                        }
                    }
                }
                Checks.same(hours + " HOURS by " + seed, w.wind(seed, hours), 3 - Integer.bitCount(out));
                Checks.same("out then", w.count(6), out);
            }
        }
    }

    private static void noHourAndSixty() {
        DrawerWall w = Checks.wall("wind 1000;home 0 0 1;");
        w.move(0);
        w.opens(0);
        String was = Checks.all(w);
        Checks.illegalArgument("-1 HOURS", () -> w.wind(1, -1));
        Checks.illegalArgument("61 HOURS", () -> w.wind(1, 61));
        Checks.illegalArgument("the least int", () -> w.wind(1, Integer.MIN_VALUE));
        Checks.illegalArgument("the greatest int", () -> w.wind(1, Integer.MAX_VALUE));
        Checks.stays("wrong HOURS", w, was);
        Checks.same("no HOUR", w.wind(1, 0), 0);
        Checks.stays("no HOUR", w, was);
        Checks.same("sixty", w.wind(1, 60), 1);
        Checks.same("none is out", w.wind(1, 60), 0);
    }

    private static void whateverSleeps() {
        DrawerWall w = Checks.wall("wind 1000;home 0 0 1;home 1 0 1;");
        w.move(0);
        w.move(1);
        w.sleeps(0, true);
        Checks.same("both", w.wind(1, 1), 2);
        Checks.same("it sleeps on", w.count(9), 1);
    }

    private static void whateverIsOutThen() {
        DrawerWall w = Checks.wall("wall 2 9;wind 111;home 0 1 9;home 0 3 1;rule story=1 or above=0 and out=2;");
        w.move(0);
        w.move(1);
        int seed = 0;
        while (draw(next(seed)) >= 999 || draw(next(next(seed))) < 111) {
            seed++;
        }
        Checks.same("the lower one", w.wind(seed, 1), 1);
        Checks.same("the higher one stays", w.count(6), 2);
        Checks.same("that can't be", w.may(2), false);
        Checks.same("it isn't REACHED", w.drawer(1, 6), 0);
        DrawerWall high = Checks.wall("wall 2 9;wind 1000;home 0 3 1;home 0 1 9;");
        high.move(1);
        high.move(0);
        high.move(1);
        Checks.same("one that isn't REACHED is slammed, too", high.wind(1, 1), 1);
    }

    private static void hurtIfItSleeps() {
        DrawerWall w = Checks.wall("wind 1000;home 0 0 1;home 1 0 1;shop 2 0 1;person 0;person 1;person 0 wants 2;");
        for (int d = 0; d < 3; d++) {
            w.move(d);
        }
        w.sleeps(0, true);
        w.sleeps(2, true);
        w.wind(1, 1);
        Checks.same("who lives there", w.person(0, 4), 1);
        Checks.same("who doesn't sleep", w.person(1, 4), 0);
        Checks.same("both who live there", w.person(2, 4), 1);
        DrawerWall five = Checks.wall("wind 1000;home 0 0 1;home 1 0 1;person 0;person 1;person 0;person 1;person 0;");
        five.move(0);
        five.sleeps(0, true);
        five.wind(1, 1);
        for (int p = 0; p < 5; p++) {
            Checks.same("of five: " + p, five.person(p, 4), p % 2 == 0 ? 1 : 0);
        }
        DrawerWall in = Checks.wall("wind 1000;home 0 0 1;person 0;");
        in.sleeps(0, true);
        in.wind(1, 60);
        Checks.same("who is in", in.person(0, 4), 0);
        DrawerWall still = Checks.wall("wind 0;home 0 0 1;person 0;");
        still.move(0);
        still.sleeps(0, true);
        still.wind(1, 60);
        Checks.same("who isn't slammed in", still.person(0, 4), 0);
    }

    private static void hurtEachTime() {
        DrawerWall w = Checks.wall("wind 1000;home 0 0 1;person 0;");
        for (int i = 1; i <= 9; i++) {
            w.sleeps(0, false);
            w.move(0);
            w.sleeps(0, true);
            Checks.same("slammed in once", w.wind(i, 9), 1);
            Checks.same("HURT", w.person(0, 4), i);
        }
    }

    private static void nobodyComesByBread() {
        DrawerWall w = Checks.wall("wind 0;home 0 0 1;shop 1 0 1;home 2 0 1;person 0 wants 1;person 2 wants 1;");
        w.move(0);
        w.wind(1, 3);
        Checks.same("the home alone", w.count(8), 0);
        w.move(1);
        w.wind(1, 3);
        Checks.same("what was had", w.count(8), 1);
    }

    private static void movesAheadAreForgotten() {
        DrawerWall w = Checks.wall("home 0 0 1;shop 1 0 1;person 0 wants 1;");
        w.move(0);
        w.move(1);
        w.wind(1, 0);
        Checks.same("no HOUR", w.count(7), 2);
        Checks.same("UNDONE", w.undo(), 1);
        w.wind(1, 1);
        Checks.same("an HOUR", w.count(7), 0);
        Checks.same("none is UNDONE", w.undo(), NONE);
        Checks.same("what is out", w.count(6), 1);
        w.move(1);
        Checks.same("MOVES behind it", w.count(7), 1);
        Checks.same("are UNDONE", w.undo(), 0);
        Checks.same("no more", w.undo(), NONE);
        Checks.same("what is out then", w.count(6), 1);
        for (int i = 0; i < 100; i++) {
            w.move(0);
        }
        Checks.same("100 MOVES", w.move(0), 5);
        w.wind(1, 1);
        Checks.same("forgotten", w.move(0), 0);
    }

    private static void whoseHomeIsOut() {
        DrawerWall w = Checks.wall("home 0 0 1;shop 1 0 1;home 2 0 1;person 0;person 2;");
        w.move(1);
        Checks.same("none", w.who(1), 0);
        w.move(0);
        Checks.same("one", w.who(1), 0b01);
        w.move(2);
        Checks.same("two", w.who(1), 0b11);
        w.sleeps(0, true);
        Checks.same("who sleeps, too", w.who(1), 0b11);
        w.move(2);
        Checks.same("one again", w.who(1), 0b01);
    }

    private static void anotherHome() {
        DrawerWall w = Checks.wall("home 0 0 1;home 1 0 1;person 0;person 0;person 1;");
        w.move(0);
        w.move(1);
        Checks.same("not who lives there", w.who(0), 0b100);
        Checks.same("of the other", w.who(1), 0b011);
    }

    private static void atMostReachStoriesAway() {
        for (int reach = 1; reach <= 4; reach++) {
            DrawerWall w = Checks.wall("wall 2 9;reach " + reach + ";home 0 0 9;home 0 1 8;home 0 2 7;home 0 3 6;home 0 4 5;"
                + "person 0;person 1;person 3;person 4;");
            for (int d = 0; d < 5; d++) {
                Checks.same("pulled out", w.move(d), 0);
            }
            int due = reach >= 2 ? 0b1111 : 0b0110;
            Checks.same("by REACH " + reach, w.who(2), due);
            Checks.same("of the lowest", w.who(0), new int[] {0b0010, 0b0010, 0b0110, 0b1110}[reach - 1]);
            Checks.same("of the highest", w.who(4), new int[] {0b0100, 0b0100, 0b0110, 0b0111}[reach - 1]);
        }
    }

    private static void atMostOneColumnAway() {
        DrawerWall w = Checks.wall("wall 6 4;home 0 0 1;home 1 0 1;stove 2 0 1;home 3 0 1;home 4 0 1;home 2 1 1;"
            + "person 0;person 1;person 3;person 4;person 5;");
        for (int d = 0; d < 5; d++) {
            w.move(d);
        }
        Checks.same("one away on both sides", w.who(2), 0b00110);
        w.move(2);
        w.move(5);
        Checks.same("of the one above", w.who(5), 0b00110);
        Checks.same("of the first", w.who(0), 0b00010);
        DrawerWall column = Checks.wall("home 0 0 2;home 0 1 1;person 0;");
        column.move(0);
        column.move(1);
        Checks.same("the same COLUMN", column.who(1), 1);
    }

    private static void ofWideOnesTheNearestColumns() {
        DrawerWall w = Checks.wall("wall 6 4;home 0 0 1;home 1 0 1;stove 2 0 1 wide;home 4 0 1;home 5 0 1;"
            + "person 0;person 1;person 3;person 4;");
        for (int d = 0; d < 5; d++) {
            w.move(d);
        }
        Checks.same("around a wide one", w.who(2), 0b0110);
        DrawerWall homes = Checks.wall("wall 6 4;home 0 0 1 wide;stove 2 0 1;stove 3 0 1;home 4 0 1 wide;person 0;person 3;");
        for (int d = 0; d < 4; d++) {
            homes.move(d);
        }
        Checks.same("beside the left one", homes.who(1), 0b01);
        Checks.same("beside the right one", homes.who(2), 0b10);
        Checks.same("two apart", homes.who(0), 0);
        DrawerWall both = Checks.wall("wall 6 4;home 0 0 1 wide;stove 2 0 1 wide;stove 4 0 1 wide;person 0;");
        for (int d = 0; d < 3; d++) {
            both.move(d);
        }
        Checks.same("two wide ones side by side", both.who(1), 1);
        Checks.same("two wide ones apart", both.who(2), 0);
    }

    private static void whoOfADrawerThatIsIn() {
        DrawerWall w = Checks.wall("home 0 0 1;stove 1 0 1;person 0;");
        w.move(0);
        Checks.same("who, in", w.who(1), NONE);
        Checks.same("odds, in", w.odds(1, 0, 0), NONE);
        Checks.same("odds, in, lower", w.odds(1, 0, 1), NONE);
        w.move(1);
        Checks.same("who, out", w.who(1), 1);
        Checks.same("odds, out", w.odds(1, 0, 0), 1);
        Checks.same("odds, out, lower", w.odds(1, 0, 1), 1);
        w.move(1);
        Checks.same("who, in again", w.who(1), NONE);
    }

    private static void odds(DrawerWall w, int drawer, int person, int upper, int lower) {
        Checks.same("odds(" + drawer + ", " + person + ", 0)", w.odds(drawer, person, 0), upper);
        Checks.same("odds(" + drawer + ", " + person + ", 1)", w.odds(drawer, person, 1), lower);
    }

    private static DrawerWall weighed(int a, int b, int c) {
        DrawerWall w = Checks.wall("home 0 0 1;stove 1 0 1;home 2 0 1;person 0 weight " + a + ";person 2 weight " + b
            + ";person 2 weight " + c + ";");
        for (int d = 0; d < 3; d++) {
            w.move(d);
        }
        return w;
    }

    private static void oddsByWeights() {
        DrawerWall w = weighed(1, 3, 7);
        odds(w, 1, 0, 1, 11);
        odds(w, 1, 1, 3, 11);
        odds(w, 1, 2, 7, 11);
        w.move(2);
        odds(w, 1, 0, 1, 1);
        odds(w, 1, 1, 0, 1);
    }

    private static void oddsInLowestTerms() {
        DrawerWall w = weighed(99, 99, 99);
        odds(w, 1, 0, 1, 3);
        DrawerWall v = weighed(84, 60, 96);
        odds(v, 1, 0, 7, 20);
        odds(v, 1, 1, 1, 4);
        odds(v, 1, 2, 2, 5);
        DrawerWall prime = weighed(97, 89, 83);
        odds(prime, 1, 0, 97, 269);
        odds(prime, 1, 2, 83, 269);
    }

    private static void oddsIfNobodyCould() {
        DrawerWall w = weighed(1, 3, 7);
        odds(w, 0, 0, 0, 1);
        odds(w, 0, 1, 0, 1);
        odds(w, 2, 0, 0, 1);
        Checks.same("nobody", w.who(0), 0);
    }

    private static void oddsIfWeightsAreZero() {
        DrawerWall w = weighed(0, 0, 0);
        Checks.same("all could", w.who(1), 0b111);
        for (int p = 0; p < 3; p++) {
            odds(w, 1, p, 0, 1);
        }
        DrawerWall one = weighed(0, 0, 5);
        odds(one, 1, 0, 0, 1);
        odds(one, 1, 2, 1, 1);
    }

    private static void statusCountsTexts() {
        DrawerWall w = new DrawerWall();
        for (int i = 1; i <= 5; i++) {
            Checks.same("a text with a FAULT", Checks.tell(w, "reach 0;"), 2);
            Checks.same("refused", w.count(11), i);
            Checks.illegalArgument("no text", () -> w.city(1));
            Checks.same("a text without", Checks.tell(w, "reach 1;"), 0);
            Checks.same("not refused", w.count(11), i);
        }
        Checks.same("MOVES aren't counted there", w.count(12), 0);
    }

    private static void statusCountsMoves() {
        DrawerWall w = Checks.wall("home 0 0 1;");
        for (int i = 1; i <= 5; i++) {
            Checks.same("a refused MOVE", w.move(1), 1);
            Checks.same("refused", w.count(12), i);
            Checks.same("a MOVE", w.move(0), 0);
            Checks.same("not refused", w.count(12), i);
        }
        for (int i = 0; i < 6; i++) {
            w.undo();
        }
        Checks.same("nothing to undo isn't counted", w.count(12), 5);
        Checks.same("a new city", Checks.tell(w, "home 0 0 1;"), 0);
        Checks.same("STATUS stays", w.count(12), 5);
    }

    private static void anImageKeeps() {
        DrawerWall w = Checks.wall("home 0 0 1;shop 1 0 1;home 2 0 1;person 0 wants 1;person 2 wants 1;wind 1000;");
        w.move(0);
        w.sleeps(0, true);
        w.wind(1, 1);
        w.sleeps(0, false);
        w.move(0);
        w.move(1);
        w.move(5);
        w.sleeps(1, true);
        Checks.tell(w, "x");
        String was = Checks.all(w);
        w.image();
        Checks.stays("an image", w, was);
        w.move(2);
        w.move(0);
        w.sleeps(2, true);
        w.sleeps(1, false);
        w.move(5);
        Checks.same("one more text is refused", Checks.tell(w, "x"), 1);
        Checks.same("as it was", w.restore(), true);
        Checks.stays("restore behind MOVES", w, was);
        w.undo();
        w.undo();
        w.move(2);
        w.sleeps(1, false);
        w.move(1);
        w.move(2);
        Checks.same("as it was again", w.restore(), true);
        Checks.stays("restore behind undo", w, was);
        w.sleeps(0, true);
        w.wind(9, 2);
        Checks.same("HURT", w.person(0, 4), 2);
        Checks.same("as it was behind WIND", w.restore(), true);
        Checks.stays("restore behind WIND", w, was);
        Checks.same("MOVES are there", w.undo(), 1);
        Checks.same("what is out", w.count(6), 1);
        Checks.same("bread", w.count(8), 0);
        Checks.same("MOVES are there, all", w.undo(), 0);
        Checks.same("nothing is out", w.count(6), 0);
        w.move(2);
        w.move(0);
        Checks.same("as it was at last", w.restore(), true);
        Checks.same("the same MOVES", w.undo(), 1);
        Checks.same("with their bread", w.count(8), 0);
    }

    private static void anImageKeepsWhatIsUndone() {
        DrawerWall w = Checks.wall("home 0 0 1;shop 1 0 1;home 2 0 1;person 0 wants 1;");
        int[] kept = {2, 0, 1};
        for (int d : kept) {
            w.move(d);
        }
        w.image();
        for (int i = 0; i < 3; i++) {
            w.undo();
        }
        for (int d = 0; d < 3; d++) {
            w.move(d);
        }
        Checks.same("as it was", w.restore(), true);
        int[] due = {0b101, 0b100, 0};
        for (int i = 0; i < 3; i++) {
            Checks.same("left", w.undo(), 2 - i);
            Checks.same("out", w.count(6), due[i]);
            Checks.same("bread", w.count(8), 0);
        }
    }

    private static void anImageInPlaceOfAnother() {
        DrawerWall w = Checks.wall("home 0 0 1;home 1 0 1;");
        w.move(0);
        w.image();
        w.move(1);
        w.image();
        w.move(0);
        w.move(1);
        w.restore();
        Checks.same("the later one", w.count(6), 3);
        w.undo();
        w.undo();
        w.image();
        w.move(0);
        w.restore();
        Checks.same("the latest one", w.count(6), 0);
        Checks.same("its MOVES", w.count(7), 0);
    }

    private static void noImage() {
        DrawerWall w = new DrawerWall();
        Checks.same("of a new object", w.restore(), false);
        w.image();
        Checks.same("one", w.restore(), true);
        Checks.same("a city", Checks.tell(w, "home 0 0 1;"), 0);
        w.move(0);
        String was = Checks.all(w);
        Checks.same("gone with it", w.restore(), false);
        Checks.stays("restore of none", w, was);
    }
}
