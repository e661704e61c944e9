/** Promises 19 to 24: rent, wind, who, odds, image, restore. */
public final class WindTest {
    public static void main(String[] args) {
        rent();
        wind();
        windByDraws();
        hurt();
        windForgetsMoves();
        windBreaksWhatCanBe();
        who();
        odds();
        image();
        Checks.end();
    }

    private static void rent() {
        DrawerWall w = Checks.wall("home 0 0 3;shop 1 2 2 wide;grave 0 1 9;stove 0 3 1;rent 10 5 2;");
        Checks.same("of a home", w.drawer(0, 7), 16);
        Checks.same("of a wide shop", w.drawer(1, 7), 48);
        Checks.same("of a grave", w.drawer(2, 7), 0);
        Checks.same("of a stove", w.drawer(3, 7), 27);
        Checks.same("of all", w.rent(), 91);
        Checks.same("without", Checks.wall("home 0 0 3;").rent(), 0);
    }

    private static void wind() {
        DrawerWall w = Checks.wall("home 0 0 1;home 1 0 1;wind 1000;");
        w.move(0);
        w.move(1);
        Checks.illegalArgument("wind of -1 hours", () -> w.wind(0, -1));
        Checks.illegalArgument("wind of 61 hours", () -> w.wind(0, 61));
        Checks.same("no hour", w.wind(0, 0), 0);
        Checks.same("nothing moved", w.count(6), 3);
        Checks.same("moves are kept", w.count(7), 2);
        Checks.same("a storm", w.wind(0, 60), 2);
        Checks.same("all in", w.count(6), 0);
        DrawerWall still = Checks.wall("home 0 0 9;");
        still.move(0);
        Checks.same("no wind", still.wind(12345, 60), 0);
    }

    private static void windByDraws() {
        for (int seed = -2000000000; seed < 1900000000; seed += 98765431) {
            DrawerWall w = Checks.wall("wall 4 4;home 0 0 5;shop 1 0 1;stove 2 0 2;home 3 0 9;wind 37;");
            int[] length = {5, 1, 2, 9};
            for (int d = 0; d < 4; d++) {
                w.move(d);
            }
            int out = 15;
            int slammed = 0;
            long next = seed;
            for (int hour = 0; hour < 4; hour++) {
                for (int d = 0; d < 4; d++) {
                    if ((out & 1 << d) != 0) {
                        next = next * 1103515245L + 12345L & 0xffffffffL;
                        if (next / 65536 % 32768 % 1000 < 37 * length[d]) {
                            out -= 1 << d;
                            slammed++;
                        }
                    }
                }
            }
            Checks.same("slammed by " + seed, w.wind(seed, 4), slammed);
            Checks.same("out by " + seed, w.count(6), out);
        }
    }

    private static void hurt() {
        DrawerWall w = Checks.wall("home 0 0 1;home 1 0 1;person 0;person 0;person 1;wind 1000;");
        for (int i = 1; i <= 3; i++) {
            w.sleeps(0, false);
            w.move(0);
            w.move(1);
            w.sleeps(0, true);
            Checks.same("both slam", w.wind(i, 2), 2);
            Checks.same("hurt each time", w.person(0, 4), i);
            Checks.same("so is the other", w.person(1, 4), i);
            Checks.same("awake", w.person(2, 4), 0);
        }
        Checks.same("it sleeps on", w.count(9), 1);
    }

    private static void windForgetsMoves() {
        DrawerWall w = Checks.wall("home 0 0 1;shop 1 0 1;person 0 wants 1;");
        w.move(0);
        w.move(1);
        w.wind(7, 1);
        Checks.same("no moves", w.count(7), 0);
        Checks.same("none is undone", w.undo(), DrawerWall.NONE);
        Checks.same("what is out stays", w.count(6), 3);
        Checks.same("bread stays", w.count(8), 1);
        w.move(0);
        Checks.same("a new one is undone", w.undo(), 0);
    }

    private static void windBreaksWhatCanBe() {
        DrawerWall w = Checks.wall("wall 2 9;home 0 0 9;home 0 2 1;shop 1 0 9;rule story < 1 or 1 < out;wind 112;");
        w.move(0);
        w.move(1);
        w.move(2);
        Checks.same("the long ones", w.wind(1, 1) > 1, true);
        Checks.same("only the high one is out", w.count(6), 0b010);
        Checks.same("that can't be", w.may(0b010), false);
        Checks.same("it isn't reached", w.move(1), 3);
        Checks.same("but with another", w.move(2), 0);
        Checks.same("how soon it is in", w.shuts(1), 2);
    }

    private static void who() {
        DrawerWall w = Checks.wall("wall 6 9;reach 2;home 1 0 9;home 3 1 9 wide;home 5 0 9;home 0 1 8;shop 2 0 9;home 2 3 1;"
            + "person 0 weight 2;person 1 weight 4;person 2 weight 50;person 3;person 5;");
        for (int d = 0; d < 5; d++) {
            w.move(d);
        }
        w.move(5);
        Checks.same("all are out", w.count(6), 0b011111);
        Checks.same("beside and above", w.who(4), 0b00011);
        Checks.same("not oneself", w.who(0), 0b01000);
        Checks.same("beside a wide one", w.who(2), 0b00010);
        Checks.same("around a wide one", w.who(1), 0b00100);
        Checks.same("in", w.who(5), DrawerWall.NONE);
        w.move(0);
        Checks.same("homes that are in", w.who(4), 0b00010);
        Checks.noSuchElement("who(6)", () -> w.who(6));
        Checks.noSuchElement("who(-1)", () -> w.who(-1));
        DrawerWall tall = Checks.wall("wall 1 9;reach 2;home 0 0 9;home 0 1 8;home 0 3 7;shop 0 2 1;person 0;person 1;person 2;");
        tall.move(0);
        tall.move(1);
        tall.move(2);
        Checks.same("at most reach away", tall.who(2), 0b010);
        Checks.same("above and below", tall.who(1), 0b101);
    }

    private static void odds(String name, DrawerWall w, int drawer, int person, int upper, int lower) {
        Checks.same(name + ": upper", w.odds(drawer, person, 0), upper);
        Checks.same(name + ": lower", w.odds(drawer, person, 1), lower);
    }

    private static void odds() {
        DrawerWall w = Checks.wall("home 0 0 9;shop 1 0 9;home 2 0 9;stove 1 2 1;person 0 weight 6;person 2 weight 3;"
            + "person 2 weight 0;person 2 weight 3;person 0 wants 1 weight 12;");
        w.move(0);
        w.move(1);
        w.move(2);
        odds("a quarter", w, 1, 0, 1, 4);
        odds("an eighth", w, 1, 1, 1, 8);
        odds("no weight", w, 1, 2, 0, 1);
        odds("a half", w, 1, 4, 1, 2);
        odds("nobody could", w, 0, 0, 0, 1);
        odds("another could not", w, 0, 1, 0, 1);
        Checks.same("in", w.odds(3, 0, 0), DrawerWall.NONE);
        Checks.same("in, lower", w.odds(3, 0, 1), DrawerWall.NONE);
        w.move(2);
        odds("only who is out", w, 1, 0, 1, 3);
        odds("not who is in", w, 1, 1, 0, 1);
        Checks.noSuchElement("another what", () -> w.odds(1, 0, 2));
        Checks.noSuchElement("what -1", () -> w.odds(1, 0, -1));
        Checks.noSuchElement("another what, in", () -> w.odds(3, 0, 2));
        Checks.noSuchElement("no drawer", () -> w.odds(4, 0, 0));
        Checks.noSuchElement("no person", () -> w.odds(1, 5, 0));
        Checks.noSuchElement("no person, in", () -> w.odds(3, -1, 0));
        DrawerWall light = Checks.wall("home 0 0 9;shop 1 0 9;person 0 weight 0;person 0 weight 0;");
        light.move(0);
        light.move(1);
        Checks.same("both could", light.who(1), 3);
        odds("weights are 0", light, 1, 0, 0, 1);
        DrawerWall one = Checks.wall("home 0 0 9;shop 1 0 9;person 0 weight 99;");
        one.move(0);
        one.move(1);
        odds("surely", one, 1, 0, 1, 1);
    }

    private static void image() {
        DrawerWall w = Checks.wall("home 0 0 9;shop 1 0 9;home 2 0 8;person 0 wants 1;person 2 wants 1;wind 1000;");
        Checks.same("no image", w.restore(), false);
        w.move(0);
        w.move(1);
        w.move(9);
        w.sleeps(1, true);
        Checks.tell(w, "x");
        w.image();
        w.sleeps(1, false);
        w.sleeps(0, true);
        w.move(2);
        w.move(9);
        Checks.tell(w, "x");
        w.wind(1, 1);
        Checks.feed(w, "y");
        Checks.same("hurt", w.person(0, 4), 1);
        Checks.same("as it was", w.restore(), true);
        int[] due = {3, 4, 3, 2, 2, 0, 3, 2, 1, 2, 20, 1, 1};
        for (int what = 0; what < due.length; what++) {
            Checks.same("restored count(" + what + ")", w.count(what), due[what]);
        }
        Checks.same("not hurt", w.person(0, 4), 0);
        Checks.same("moves are back", w.undo(), 1);
        Checks.same("bread goes with them", w.count(8), 0);
        Checks.same("again", w.restore(), true);
        Checks.same("moves again", w.count(7), 2);
        w.undo();
        w.undo();
        w.image();
        w.sleeps(1, false);
        w.move(1);
        Checks.same("in its place", w.restore(), true);
        Checks.same("the later image", w.count(6), 0);
        Checks.same("a city", w.city(0), 0);
        Checks.same("the image is gone", w.restore(), false);
    }
}
