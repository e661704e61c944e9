/** Promises 8 and 9: what can be out, and the language of rules. */
public final class RulesTest {
    public static void main(String[] args) {
        longerBelow();
        wideOnes();
        graves();
        values();
        arithmetic();
        logic();
        leastBroken();
        wrongSets();
        Checks.end();
    }

    private static void longerBelow() {
        DrawerWall w = Checks.wall("home 0 0 3;home 0 1 2;home 0 3 1;home 1 0 1;home 1 3 9;");
        Checks.same("none", w.may(0), true);
        Checks.same("growing shorter", w.may(0b00111), true);
        Checks.same("with a gap", w.may(0b00101), true);
        Checks.same("other column", w.may(0b01111), true);
        Checks.same("shorter below", w.may(0b11000), false);
        DrawerWall like = Checks.wall("home 0 0 2;home 0 3 2;home 1 3 2;");
        Checks.same("equally long", like.may(0b011), false);
        Checks.same("equally long in two columns", like.may(0b101), true);
    }

    private static void wideOnes() {
        DrawerWall w = Checks.wall("home 0 0 3;home 1 0 5;shop 0 1 4 wide;home 2 0 1;home 1 2 4;");
        Checks.same("its first column", w.may(0b00101), false);
        Checks.same("its second column", w.may(0b00110), true);
        Checks.same("beside it", w.may(0b01100), true);
        Checks.same("above its second column", w.may(0b10100), false);
    }

    private static void graves() {
        DrawerWall w = Checks.wall("grave 0 0 1;stove 1 0 1;");
        Checks.same("a grave", w.may(1), false);
        Checks.same("a stove", w.may(2), true);
        Checks.same("a grave breaks no rule", w.broken(1), DrawerWall.NONE);
    }

    private static final String FIVE = "home 0 0 9 wide;shop 1 2 7 wide;stove 1 3 5;home 2 3 4;shop 0 1 8;";

    private static void holds(String rule, int set, boolean due) {
        DrawerWall w = Checks.wall(FIVE + "rule " + rule + ";");
        Checks.same("may: " + rule, w.may(set), due);
        Checks.same("broken: " + rule, w.broken(set), due ? DrawerWall.NONE : 0);
    }

    private static void values() {
        holds("column = 0", 0b00001, true);
        holds("column = 0", 0b00010, false);
        holds("column = 2", 0b01000, true);
        holds("story = 3", 0b01100, true);
        holds("story = 3", 0b01101, false);
        holds("length = 7", 0b00010, true);
        holds("length = 8", 0b00010, false);
        holds("kind = 0", 0b01001, true);
        holds("kind = 1", 0b10010, true);
        holds("kind = 3", 0b00100, true);
        holds("out = 3", 0b00111, true);
        holds("out = 3", 0b01111, false);
        holds("shops = 2", 0b11011, true);
        holds("shops = 2", 0b01011, false);
        holds("above = 0", 0b01100, true);
        holds("above = 4 - story or story = 3 and above = 0", 0b01111, false);
        holds("story = 0 and above = 3 or story = 1 and above = 0 or story = 2 and above = 1 or story = 3 and above = 0",
            0b10111, true);
        holds("kind = 1 and above = 2 or story = 3", 0b01110, true);
        holds("0", 0, true);
        holds("0", 1, false);
    }

    private static void arithmetic() {
        holds("7 - 2 - 1 = 4", 1, true);
        holds("8 / 2 / 2 = 2", 1, true);
        holds("8 / 2 * 3 = 12", 1, true);
        holds("7 / 2 = 3", 1, true);
        holds("(0 - 7) / 2 = 0 - 3", 1, true);
        holds("7 / 0 = 0", 1, true);
        holds("0 - 1", 1, true);
        holds("2 + 3 * 4 = 14", 1, true);
        holds("(2 + 3) * 4 = 20", 1, true);
        holds("9999 * 9999 * 9999 * 9999 < 0 - 1 * 1", 1, 9999 * 9999 * 9999 * 9999 < -1);
        String least = "(0 - 2048) * 1024 * 1024";
        holds(least + " / (0 - 1) < 0", 1, true);
        holds(least + " - 1 < 0", 1, false);
    }

    private static void logic() {
        holds("1 or 0 and 0", 1, true);
        holds("(1 or 0) and 0", 1, false);
        holds("not 0 and 0", 1, false);
        holds("not (0 and 0)", 1, true);
        holds("not 5 = 4", 1, true);
        holds("not not 5 = 1", 1, false);
        holds("(not not 5) = 1", 1, true);
        holds("(5 and 7) = 1", 1, true);
        holds("(0 or 7) = 1", 1, true);
        holds("(5) + (2 or 2) = 6", 1, true);
        holds("(3 < 4) + (4 < 3) + (3 < 3) + (3 = 3) = 2", 1, true);
    }

    private static void leastBroken() {
        DrawerWall w = Checks.wall("home 0 0 9;home 1 0 9;rule 1;rule column = 0;rule out < 2;rule length < 9;");
        Checks.same("the last", w.broken(0b01), 3);
        Checks.same("of the second drawer", w.broken(0b10), 1);
        Checks.same("of both", w.broken(0b11), 1);
        Checks.same("of none", w.broken(0), DrawerWall.NONE);
        Checks.same("may", w.may(0b01), false);
    }

    private static void wrongSets() {
        DrawerWall w = Checks.wall("home 0 0 9;home 1 0 9;");
        Checks.illegalArgument("may(4)", () -> w.may(4));
        Checks.illegalArgument("may(-1)", () -> w.may(-1));
        Checks.illegalArgument("may(1 << 31)", () -> w.may(1 << 31));
        Checks.illegalArgument("broken(4)", () -> w.broken(4));
        Checks.illegalArgument("broken(-1)", () -> w.broken(-1));
        Checks.same("may(3)", w.may(3), true);
    }
}
