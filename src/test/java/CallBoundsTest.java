import java.util.NoSuchElementException;

/** The sections "Promise 1" to "Promise 24": what each call refuses, what it answers without, and what stays then. */
public final class CallBoundsTest {
    private static final int NONE = DrawerWall.NONE;
    private static final int LEAST = Integer.MIN_VALUE;
    private static final int GREATEST = Integer.MAX_VALUE;
    private static final int[] FAR = {LEAST, LEAST + 1, -33, -32, -2, -1, 10, 31, 32, 33, 64, 1 << 30, GREATEST};

    interface Ask {
        void of(int number);
    }

    public static void main(String[] args) {
        newObject();
        feedUpToSevenHundred();
        feedTakesTheHighestByteFirst();
        feedBehindARefusedCity();
        cityOfTooMany();
        cityOfFewer();
        cityAllAnew();
        cityWithAFault();
        faultOfTheLatestCity();
        countOfAnother();
        drawerOfNone();
        personOfNone();
        mayAndBrokenOfOtherBits();
        moveOfNone();
        undoOfNone();
        sleepsOfNone();
        opensOfNone();
        shutsOfNone();
        breadOfNone();
        rowOfNone();
        harmOfNone();
        marriedOfNone();
        rentOfNone();
        windOfWrongHours();
        whoOfNone();
        oddsOfNone();
        imageOfNothing();
        restoreOfNone();
        Checks.end();
    }

    /** Two homes, a shop and a grave; something is out, sleeps, was refused, is kept and lies on the tape. */
    private static DrawerWall busy() {
        DrawerWall w = Checks.wall("wall 4 5;home 0 0 9;home 1 0 9;shop 2 0 9;grave 3 0 9;person 0 wants 2;person 1 weight 3;"
            + "rule out<4;rent 1 2 3;wind 100;reach 3;");
        w.move(0);
        w.move(2);
        w.move(3);
        w.sleeps(1, true);
        w.shuts(2);
        Checks.tell(w, "reach 2;?");
        Checks.feed(w, "reach 4;");
        return w;
    }

    private static void refuses(String call, DrawerWall w, Class<?> due, Ask ask, int... numbers) {
        String was = Checks.all(w);
        for (int number : numbers) {
            if (due == NoSuchElementException.class) {
                Checks.noSuchElement(call + " of " + number, () -> ask.of(number));
            } else {
                Checks.illegalArgument(call + " of " + number, () -> ask.of(number));
            }
        }
        Checks.stays(call, w, was);
    }

    private static void noSuch(String call, DrawerWall w, Ask ask, int... numbers) {
        refuses(call, w, NoSuchElementException.class, ask, numbers);
        refuses(call, w, NoSuchElementException.class, ask, FAR);
    }

    private static void newObject() {
        DrawerWall w = new DrawerWall();
        Checks.stays("a new object", w, "3 4 0 0 2 0 0 0 0 0 0 0 0  fault -1 row none");
        Checks.same("may", w.may(0), true);
        Checks.same("broken", w.broken(0), NONE);
        Checks.same("bread", w.bread(), 0);
        Checks.same("rent", w.rent(), 0);
        Checks.same("wind", w.wind(1, 60), 0);
        Checks.same("move", w.move(0), 1);
        Checks.same("undo", w.undo(), NONE);
        Checks.same("restore", w.restore(), false);
    }

    private static void feedUpToSevenHundred() {
        DrawerWall w = new DrawerWall();
        for (int i = 1; i <= 35; i++) {
            Checks.same("feed " + i, w.feed(i, i, i, i, i), 20 * i);
            Checks.same("bytes", w.count(10), 20 * i);
        }
        String was = Checks.all(w);
        Checks.same("one more", w.feed(1, 1, 1, 1, 1), NONE);
        Checks.same("and one more", w.feed(0, 0, 0, 0, 0), NONE);
        Checks.stays("feed", w, was);
    }

    private static void feedTakesTheHighestByteFirst() {
        String text = "reach 7;home 0 1 23;";
        for (int shift = 0; shift < 20; shift++) {
            StringBuilder rolled = new StringBuilder();
            for (int i = 0; i < shift; i++) {
                rolled.append(' ');
            }
            DrawerWall w = new DrawerWall();
            Checks.same("behind " + shift + " blanks", Checks.tell(w, rolled + text), 2);
            Checks.same("its place", w.fault(), shift + 17);
        }
        DrawerWall w = new DrawerWall();
        w.feed('r' << 24 | 'e' << 16 | 'a' << 8 | 'c', 'h' << 24 | '9' << 16 | ';' << 8 | 'h', 0x6f6d6530, 0x20302031, 0x3b000000);
        Checks.same("seventeen bytes", w.city(17), 0);
        Checks.same("REACH", w.count(4), 9);
        Checks.same("DRAWERS", w.count(2), 1);
        w.feed(0x80808080, 0, 0, 0, 0);
        Checks.same("bytes below 0", w.city(20), 1);
    }

    private static void feedBehindARefusedCity() {
        DrawerWall w = new DrawerWall();
        Checks.feed(w, "reach 0;");
        Checks.same("a FAULT", w.city(20), 2);
        Checks.same("the tape is empty", w.count(10), 0);
        Checks.feed(w, "reach 5;");
        Checks.same("bytes", w.count(10), 20);
        Checks.same("what comes then", w.city(8), 0);
        Checks.same("REACH", w.count(4), 5);
    }

    private static void cityOfTooMany() {
        DrawerWall w = busy();
        refuses("city", w, IllegalArgumentException.class, n -> w.city(n), -1, 21, LEAST, GREATEST, 700, 701);
        Checks.same("as many as there are", w.city(20), 0);
        refuses("city of an empty tape", w, IllegalArgumentException.class, n -> w.city(n), -1, 1, LEAST, GREATEST);
        Checks.same("none", w.city(0), 0);
        DrawerWall kept = busy();
        kept.image();
        kept.move(0);
        Checks.illegalArgument("too many", () -> kept.city(21));
        Checks.same("the image stays", kept.restore(), true);
        Checks.same("as it was", kept.count(6), 5);
    }

    private static void cityOfFewer() {
        DrawerWall w = new DrawerWall();
        Checks.feed(w, "reach 5;reach 0;");
        Checks.same("the first bytes", w.city(8), 0);
        Checks.same("the rest is gone", w.count(10), 0);
        Checks.feed(w, "reach 5;reach 0;");
        Checks.same("one more", w.city(9), 1);
        Checks.same("the rest is gone, too", w.count(10), 0);
        Checks.feed(w, "reach 5;reach 0;");
        Checks.same("no bytes", w.city(0), 0);
        Checks.same("all is gone", w.count(10), 0);
        Checks.same("REACH", w.count(4), 2);
    }

    private static void cityAllAnew() {
        DrawerWall w = busy();
        w.sleeps(0, true);
        w.wind(1, 60);
        w.image();
        Checks.same("HURT", w.person(0, 4), 1);
        Checks.same("a sleeper is in", w.move(0), 2);
        w.sleeps(0, false);
        Checks.same("one is out", w.move(0), 0);
        w.sleeps(0, true);
        String more = "home 0 0 9;home 1 0 9;person 0;";
        Checks.feed(w, more);
        Checks.same("a city behind what lay on the tape", w.city(20 + more.length()), 0);
        Checks.stays("a city", w, "3 4 2 1 4 0 0 0 0 0 0 1 2 "
            + " | 0 0 0 9 0 0 1 0 | 0 1 0 9 0 0 1 0 : 0 -1 1 0 0 fault -1 row none");
        Checks.same("no image", w.restore(), false);
        Checks.same("no MOVES", w.undo(), NONE);
        w.move(0);
        Checks.same("no WIND", w.wind(1, 60), 0);
        Checks.same("no RULES", w.broken(3), NONE);
    }

    private static void cityWithAFault() {
        DrawerWall w = busy();
        String was = Checks.all(w);
        w.image();
        Checks.same("a FAULT behind much else", w.city(6), 1);
        Checks.stays("a FAULT", w, was.replaceFirst(" 20 1 1 ", " 0 2 1 ").replaceFirst("fault 8", "fault 6"));
        Checks.same("who has bread", w.count(8), 1);
        Checks.same("RENT", w.rent(), 84);
        Checks.row("THE ROW", w, 2);
        Checks.same("RULES", w.broken(15), 0);
        w.move(0);
        Checks.same("the image", w.restore(), true);
        Checks.same("as it was", w.count(6), 5);
        Checks.same("MOVES", w.undo(), 1);
    }

    private static void faultOfTheLatestCity() {
        DrawerWall w = new DrawerWall();
        Checks.same("without", w.fault(), NONE);
        Checks.tell(w, "x");
        Checks.same("the first byte", w.fault(), 0);
        Checks.tell(w, "reach");
        Checks.same("the text's length", w.fault(), 5);
        Checks.tell(w, "reach 2;");
        Checks.same("none any more", w.fault(), NONE);
        Checks.tell(w, "reach 0;");
        Checks.illegalArgument("no city", () -> w.city(1));
        Checks.same("it stays", w.fault(), 6);
        w.city(0);
        Checks.same("an empty one has none", w.fault(), NONE);
    }

    private static void countOfAnother() {
        DrawerWall w = busy();
        int[] due = {4, 5, 4, 2, 3, 1, 5, 2, 1, 2, 20, 1, 1};
        for (int what = 0; what < due.length; what++) {
            Checks.same("count(" + what + ")", w.count(what), due[what]);
        }
        refuses("count", w, NoSuchElementException.class, what -> w.count(what), -1, 13, LEAST, GREATEST, 32, 64);
    }

    private static void drawerOfNone() {
        DrawerWall w = busy();
        Checks.same("the first", w.drawer(0, 3), 9);
        Checks.same("the last", w.drawer(3, 0), 2);
        noSuch("drawer", w, d -> w.drawer(d, 0), 4, 5);
        noSuch("what of a drawer", w, what -> w.drawer(0, what), 8, 9);
        noSuch("what of no drawer", w, what -> w.drawer(4, what), 8, 0);
        DrawerWall none = new DrawerWall();
        noSuch("drawer of none", none, d -> none.drawer(d, 0), 0, 1);
    }

    private static void personOfNone() {
        DrawerWall w = busy();
        Checks.same("the first", w.person(0, 1), 2);
        Checks.same("the last", w.person(1, 1), NONE);
        noSuch("person", w, p -> w.person(p, 0), 2, 3, 4, 5);
        noSuch("what of a person", w, what -> w.person(0, what), 5, 6);
        noSuch("what of no person", w, what -> w.person(2, what), 5, 0);
        DrawerWall none = new DrawerWall();
        noSuch("person of none", none, p -> none.person(p, 0), 0, 1);
    }

    private static void mayAndBrokenOfOtherBits() {
        DrawerWall w = busy();
        Checks.same("all bits, may", w.may(15), false);
        Checks.same("all bits, broken", w.broken(15), 0);
        int[] others = {16, 17, 31, 1 << 9, 1 << 10, 1 << 30, LEAST, -1, -16, GREATEST};
        refuses("may", w, IllegalArgumentException.class, set -> w.may(set), others);
        refuses("broken", w, IllegalArgumentException.class, set -> w.broken(set), others);
        DrawerWall none = new DrawerWall();
        Checks.same("of none", none.may(0), true);
        Checks.illegalArgument("of one that isn't", () -> none.may(1));
        Checks.illegalArgument("nor is broken", () -> none.broken(1));
        DrawerWall ten = Checks.wall("wall 6 2;home 0 0 1;home 1 0 1;home 2 0 1;home 3 0 1;home 4 0 1;home 5 0 1;home 0 1 1;"
            + "home 1 1 1;home 2 1 1;home 3 1 1;rule out<9;");
        Checks.same("ten bits", ten.broken(1023), 0);
        Checks.same("the tenth alone", ten.may(512), true);
        Checks.illegalArgument("an eleventh", () -> ten.may(1024));
    }

    private static void moveOfNone() {
        DrawerWall w = busy();
        for (int d : FAR) {
            Checks.same("move(" + d + ")", w.move(d), 1);
        }
        Checks.same("the one behind the last", w.move(4), 1);
        Checks.same("STATUS", w.count(12), 2 + FAR.length);
        Checks.same("nothing moved", w.count(6), 5);
        Checks.same("the last", w.move(3), 4);
    }

    private static void undoOfNone() {
        DrawerWall w = busy();
        Checks.same("one is left", w.undo(), 1);
        Checks.same("none is left", w.undo(), 0);
        String was = Checks.all(w);
        Checks.same("there is none", w.undo(), NONE);
        Checks.stays("undo", w, was);
    }

    private static void sleepsOfNone() {
        DrawerWall w = busy();
        noSuch("sleeps", w, d -> w.sleeps(d, true), 4, 5);
        noSuch("sleeps no more", w, d -> w.sleeps(d, false), 4, 5);
        w.sleeps(3, true);
        w.sleeps(0, true);
        w.sleeps(0, true);
        Checks.same("three sleep", w.count(9), 0b1011);
        w.sleeps(1, false);
        w.sleeps(1, false);
        Checks.same("two sleep", w.count(9), 0b1001);
    }

    private static void opensOfNone() {
        DrawerWall w = busy();
        noSuch("opens", w, d -> w.opens(d), 4, 5);
        String was = Checks.all(w);
        Checks.same("it sleeps", w.opens(1), NONE);
        Checks.same("a grave", w.opens(3), NONE);
        Checks.stays("opens", w, was);
        Checks.same("it is out", w.opens(0), 0);
        Checks.row("it is out", w);
    }

    private static void shutsOfNone() {
        DrawerWall w = busy();
        noSuch("shuts", w, d -> w.shuts(d), 4, 5);
        w.sleeps(0, true);
        String was = Checks.all(w);
        Checks.same("it sleeps", w.shuts(0), NONE);
        Checks.stays("shuts", w, was);
        Checks.same("it is in", w.shuts(3), 0);
        Checks.row("it is in", w);
    }

    private static void breadOfNone() {
        DrawerWall w = Checks.wall("home 0 0 1;shop 1 0 1;person 0 wants 1;");
        w.opens(1);
        w.sleeps(0, true);
        String was = Checks.all(w);
        Checks.same("never", w.bread(), NONE);
        Checks.stays("bread", w, was);
        w.sleeps(0, false);
        Checks.same("soon", w.bread(), 2);
        Checks.row("soon", w, 0, 1);
    }

    private static void rowOfNone() {
        DrawerWall w = Checks.wall("home 0 1 2;home 0 3 1;");
        refuses("row of none", w, NoSuchElementException.class, i -> w.row(i), NONE, 0, 1, -2, LEAST, GREATEST);
        w.opens(1);
        Checks.row("two", w, 0, 1);
        refuses("row", w, NoSuchElementException.class, i -> w.row(i), 2, 3, -2, -3, LEAST, GREATEST);
        w.opens(0);
        Checks.row("a shorter one", w, 0);
        refuses("what was in the longer one", w, NoSuchElementException.class, i -> w.row(i), 1, 2);
        w.shuts(0);
        Checks.same("how many", w.row(NONE), 0);
        refuses("an empty row", w, NoSuchElementException.class, i -> w.row(i), 0, 1, -2);
        w.move(0);
        w.undo();
        w.image();
        w.restore();
        w.wind(1, 1);
        Checks.same("other calls leave it", w.row(NONE), 0);
        w.city(0);
        Checks.noSuchElement("a city takes it", () -> w.row(NONE));
    }

    private static void harmOfNone() {
        DrawerWall w = busy();
        noSuch("harm", w, d -> w.harm(d), 4, 5);
        String was = Checks.all(w);
        for (int d = 0; d < 4; d++) {
            Checks.same("harm(" + d + ")", w.harm(d), 0);
        }
        Checks.stays("harm", w, was);
    }

    private static void marriedOfNone() {
        DrawerWall w = busy();
        noSuch("married to none", w, d -> w.married(0, d), 4, 5);
        noSuch("none is married", w, d -> w.married(d, 0), 4, 5);
        noSuch("neither is", w, d -> w.married(d, d), 4, 5);
        Checks.same("they can't marry", w.married(2, 3), NONE - 100);
        Checks.same("that is", NONE - 100, -101);
    }

    private static void rentOfNone() {
        DrawerWall w = Checks.wall("rent 99 99 99;");
        Checks.same("no DRAWERS", w.rent(), 0);
        Checks.same("only graves", Checks.wall("rent 99 99 99;grave 0 0 9;").rent(), 0);
    }

    private static void windOfWrongHours() {
        DrawerWall w = busy();
        w.sleeps(0, true);
        refuses("wind", w, IllegalArgumentException.class, hours -> w.wind(1, hours), -1, 61, LEAST, GREATEST, 64, 256);
        String was = Checks.all(w);
        Checks.same("no HOUR", w.wind(1, 0), 0);
        Checks.stays("no HOUR", w, was);
        Checks.same("sixty", w.wind(1, 60), 2);
        Checks.same("HURT", w.person(0, 4), 1);
    }

    private static void whoOfNone() {
        DrawerWall w = busy();
        noSuch("who", w, d -> w.who(d), 4, 5);
        Checks.same("in", w.who(1), NONE);
        Checks.same("a grave", w.who(3), NONE);
        Checks.same("out", w.who(0), 0);
    }

    private static void oddsOfNone() {
        DrawerWall w = busy();
        noSuch("odds of no drawer", w, d -> w.odds(d, 0, 0), 4, 5);
        noSuch("odds of no person", w, p -> w.odds(0, p, 0), 2, 3, 4, 5);
        DrawerWall v = busy();
        noSuch("odds of no person, in", v, p -> v.odds(1, p, 0), 2, 3, 4, 5);
        noSuch("odds of another what", v, what -> v.odds(0, 0, what), 2, 3);
        DrawerWall u = busy();
        noSuch("odds of another what, in", u, what -> u.odds(1, 0, what), 2, 3);
        Checks.same("in", u.odds(1, 1, 0), NONE);
        Checks.same("in, lower", u.odds(1, 1, 1), NONE);
        Checks.same("nobody", u.odds(0, 1, 0), 0);
        Checks.same("nobody, lower", u.odds(0, 1, 1), 1);
    }

    private static void imageOfNothing() {
        DrawerWall w = new DrawerWall();
        String was = Checks.all(w);
        w.image();
        Checks.stays("image", w, was);
        w.move(0);
        Checks.same("restore", w.restore(), true);
        Checks.stays("restore", w, was);
    }

    private static void restoreOfNone() {
        DrawerWall w = busy();
        String was = Checks.all(w);
        Checks.same("there is none", w.restore(), false);
        Checks.stays("restore", w, was);
        w.image();
        Checks.same("there is one", w.restore(), true);
        Checks.same("as often as asked", w.restore(), true);
        Checks.stays("restore of one", w, was);
    }
}
