/** "All anew": whatever was told, moved or refused before, a city is as if a new object had been told it. */
public final class AnewBoundsTest {
    private static final String[] TEXTS = {
        "wall 6 9;reach 5;rent 99 98 97;wind 1000;home 0 0 9 wide;grave 2 0 8;shop 3 0 7 wide;home 1 4 6;person 0 wants 2 weight 9;"
            + "person 3 wants 2 weight 8;rule out<3;rule not story=4 or above=0;rule 1;rule kind<2;",
        "home 1 1 1;home 0 1 1;shop 2 0 1;person 1 wants 2;",
        "",
        "grave 0 0 1;home 2 3 9;home 1 0 9;shop 1 1 3 wide;person 1;person 2 wants 3;person 1;person 2;person 2 weight 0;",
        "wall 1 9;reach 1;shop 0 0 9;home 0 1 8;home 0 2 7;stove 0 8 1;person 1 wants 0;person 2 wants 0;rule above<3;",
        "wall 4 2;home 0 0 1;home 1 0 2;home 2 0 3;home 3 0 4;wind 1;rent 1 0 0;person 3 weight 5;",
        "home 0 0 2;shop 0 1 1;rule out=1 or story=1 or shops=1;person 0 wants 1;",
        "home 0 0 1;rule not 0;",
        "home 0 0 1;rule 1;",
    };
    // Each tells much ahead of its FAULT.
    private static final String[] REFUSED = {
        "wall 6 9;reach 9;rent 9 9 9;wind 999;home 0 0 1 wide;shop 2 0 1 wide;grave 4 0 9;stove 5 0 9;home 0 1 9;person 0 wants 1;"
            + "person 0 weight 7;rule 0;rule 0;rule 0;rule 0+;",
        "wall 1 1;grave 0 0 9;rule 0;x",
    };

    public static void main(String[] args) {
        eachBehindEach();
        eachBehindARefusedOne();
        eachBehindMarriages();
        Checks.end();
    }

    private static void eachBehindEach() {
        for (String first : TEXTS) {
            for (String second : TEXTS) {
                DrawerWall w = new DrawerWall();
                // The third text is the first that could meet what an earlier one has left.
                Checks.same("city: " + first, Checks.tell(w, first), 0);
                use(w);
                Checks.same("city: " + second, Checks.tell(w, second), 0);
                use(w);
                asIfNew(w, first);
            }
        }
        for (String first : TEXTS) {
            for (String second : TEXTS) {
                DrawerWall w = new DrawerWall();
                Checks.same("city: " + first, Checks.tell(w, first), 0);
                use(w);
                Checks.same("again: " + first, Checks.tell(w, first), 0);
                use(w);
                asIfNew(w, second);
            }
        }
    }

    private static void eachBehindARefusedOne() {
        for (String refused : REFUSED) {
            for (String text : TEXTS) {
                DrawerWall behind = new DrawerWall();
                Checks.same("city: " + refused, Checks.tell(behind, refused), 1);
                asIfNew(behind, text);
                DrawerWall ahead = Checks.wall(text);
                Checks.same("city: " + refused, Checks.tell(ahead, refused), 1);
                sameAsNew("ahead of a refused text", ahead, text);
            }
        }
    }

    private static void eachBehindMarriages() {
        for (String text : TEXTS) {
            DrawerWall w = Checks.wall("home 1 0 5;home 0 0 5;shop 2 0 5;person 0 wants 2;rule 1;rule 2;rule 3;");
            Checks.same("married", w.married(1, 0), 0);
            asIfNew(w, text);
        }
    }

    /** Leaves as much behind as a few calls can. */
    private static void use(DrawerWall w) {
        for (int d = 0; d < w.count(2); d++) {
            w.move(d);
            w.harm(d);
        }
        w.bread();
        for (int d = 0; d < w.count(2); d++) {
            w.sleeps(d, true);
        }
        w.wind(1, 1);
        for (int d = 0; d < w.count(2); d++) {
            w.sleeps(d, d % 2 == 0);
            w.move(d);
        }
        w.image();
    }

    private static void asIfNew(DrawerWall w, String text) {
        Checks.same("city: " + text, Checks.tell(w, text), 0);
        Checks.noSuchElement("no row: " + text, () -> w.row(DrawerWall.NONE));
        Checks.same("no image: " + text, w.restore(), false);
        Checks.same("no MOVES: " + text, w.undo(), DrawerWall.NONE);
        sameAsNew("told anew", w, text);
    }

    private static void sameAsNew(String when, DrawerWall w, String text) {
        String is = asked(w);
        String due = asked(Checks.wall(text));
        Checks.same(when + ": " + text + " answered " + is + ", due is " + due, is.equals(due), true);
    }

    private static String asked(DrawerWall w) {
        StringBuilder all = new StringBuilder();
        for (int what = 0; what <= 10; what++) {
            all.append(w.count(what)).append(' ');
        }
        int drawers = w.count(2);
        for (int d = 0; d < drawers; d++) {
            all.append("| ");
            for (int what = 0; what <= 7; what++) {
                all.append(w.drawer(d, what)).append(' ');
            }
            all.append(w.opens(d)).append(' ').append(w.harm(d)).append(' ');
            all.append(w.married(d, (d + 1) % drawers)).append(' ');
        }
        int people = w.count(3);
        for (int p = 0; p < people; p++) {
            all.append(": ");
            for (int what = 0; what <= 4; what++) {
                all.append(w.person(p, what)).append(' ');
            }
        }
        for (int set = 0; set < 1 << drawers; set++) {
            all.append(w.may(set) ? '+' : '-').append(w.broken(set));
        }
        return all.append(" bread ").append(w.bread()).append(" rent ").append(w.rent()).append(windOf(w, drawers)).toString();
    }

    private static String windOf(DrawerWall w, int drawers) {
        for (int d = 0; d < drawers; d++) {
            w.move(d);
        }
        int out = w.count(6);
        String answer = " out " + out + " wind " + w.wind(7, 1) + " of ";
        return answer + w.count(6);
    }
}
