/** The document's paragraph of EXPR and the sentence of what CAN BE: each edge, on both its sides. */
public final class RuleBoundsTest {
    // 2048 by 1024 by 1024 is one more than the greatest int.
    private static final String LEAST = "(2048*1024*1024)";
    private static final String GREATEST = "(2048*1024*1024-1)";
    private static final String NINE = "wall 4 9;home 0 0 9 wide;shop 0 2 7;shop 1 2 8;stove 0 4 5 wide;home 2 0 9;home 2 4 6;"
        + "shop 1 5 4 wide;home 3 8 2;grave 3 0 9;";

    public static void main(String[] args) {
        intsThatWrap();
        divisionCutsDownToZero();
        divisionByZeroGivesZero();
        fromTheLeft();
        whatBindsCloser();
        testsAreOneOrZero();
        whatIsNotZeroHolds();
        oneTestOnly();
        valueColumn();
        valueStory();
        valueLength();
        valueKind();
        valueOut();
        valueShops();
        valueAbove();
        theLowerOneIsLonger();
        inOneColumn();
        noGraveIsOut();
        allRulesHoldForEachThatIsOut();
        fourRulesThatHold();
        nothingIsOut();
        theLeastRule();
        Checks.end();
    }

    /** Whether a rule holds for a home that is out alone. */
    private static void holds(String rule, boolean due) {
        DrawerWall w = Checks.wall("home 0 0 1;rule " + rule + ";");
        Checks.same("may: " + rule, w.may(1), due);
        Checks.same("broken: " + rule, w.broken(1), due ? DrawerWall.NONE : 0);
    }

    /** For which of NINE a rule holds, if a set is out. */
    private static void holdsAmong(String rule, int set, boolean due) {
        DrawerWall w = Checks.wall(NINE + "rule " + rule + ";");
        Checks.same("broken: " + rule + " by " + set, w.broken(set), due ? DrawerWall.NONE : 0);
    }

    /** Any int, told by NUMBERS of four digits. */
    private static String told(int number) {
        String upper = number < 0 ? "(0-" + -(number >> 24) + ")" : "" + (number >> 24);
        return "((" + upper + "*4096+" + (number >> 12 & 4095) + ")*4096+" + (number & 4095) + ")";
    }

    private static void intsThatWrap() {
        holds(LEAST + "<0", true);
        holds("0<" + GREATEST, true);
        holds(GREATEST + "+1=" + LEAST, true);
        holds(LEAST + "-1=" + GREATEST, true);
        holds("0-" + LEAST + "=" + LEAST, true);
        holds(LEAST + "+" + LEAST + "=0", true);
        holds(GREATEST + "*2=0-2", true);
        holds("256*256*256*256=0", true);
        holds("9999*9999*9999=" + told(9999 * 9999 * 9999), true);
        holds("9999*9999*9999=" + told(9999 * 9999 * 9999 + 1), false);
        holds("9999*9999*9999*9999*9999=" + told(9999 * 9999 * 9999 * 9999 * 9999), true);
        holds("(" + GREATEST + "<" + LEAST + ")=0", true);
    }

    private static void divisionCutsDownToZero() {
        holds("7/2=3", true);
        holds("(0-7)/2=0-3", true);
        holds("7/(0-2)=0-3", true);
        holds("(0-7)/(0-2)=3", true);
        holds("1/2", false);
        holds("(0-1)/2", false);
        holds("2/2", true);
        holds(LEAST + "/(0-1)=" + LEAST, true);
        holds(GREATEST + "/(0-1)=0-" + GREATEST, true);
    }

    private static void divisionByZeroGivesZero() {
        holds("7/0=0", true);
        holds("0/0=0", true);
        holds("(0-7)/0=0", true);
        holds(LEAST + "/0=0", true);
        holds("7/(1-1)+3=3", true);
        holds("7/1=7", true);
        holds("7/(0-1)=0-7", true);
        holds("5/story+1", true);
        holds("5/story", false);
    }

    private static void fromTheLeft() {
        holds("9-4-3=2", true);
        holds("9-4+3=8", true);
        holds("64/8/4=2", true);
        holds("64/8*4=32", true);
        holds("7/2*2=6", true);
        holds("2*7/2=7", true);
    }

    private static void whatBindsCloser() {
        holds("1+2*3=7", true);
        holds("(1+2)*3=9", true);
        holds("1 or 0 and 0", true);
        holds("(1 or 0)and 0", false);
        holds("not 0 and 0", false);
        holds("not 1 or 1", true);
        holds("not 1=0", true);
        holds("(not 1)=0", true);
        holds("not 0=0", false);
        holds("0=1 or 2=2", true);
        holds("1+1<3 and 2<1+2", true);
    }

    private static void testsAreOneOrZero() {
        holds("(2<3)=1", true);
        holds("(3<3)=0", true);
        holds("(4<3)=0", true);
        holds("(3=3)=1", true);
        holds("(3=4)=0", true);
        holds("(not 7)=0", true);
        holds("(not 0)=1", true);
        holds("(7 and 5)=1", true);
        holds("(7 and 0)=0", true);
        holds("(0 and 7)=0", true);
        holds("(7 or 0)=1", true);
        holds("(0 or 7)=1", true);
        holds("(0 or 0)=0", true);
    }

    private static void whatIsNotZeroHolds() {
        holds("0", false);
        holds("1", true);
        holds("2", true);
        holds("0-1", true);
        holds(LEAST, true);
        holds("(0-1)and(0-2)", true);
        holds("not(0-1)", false);
        holds("0 or(0-1)", true);
    }

    private static void oneTestOnly() {
        Checks.fault(1, "rule 1<2@<3;");
        Checks.fault(1, "rule 1=2@<3;");
        Checks.fault(1, "rule 1<2@=3;");
        holds("(1<2)<3", true);
        holds("1<(2<3)", false);
    }

    private static void valueColumn() {
        holdsAmong("column=0", 0b000001011, true);
        holdsAmong("column=1", 0b001000100, true);
        holdsAmong("column=2", 0b000110000, true);
        holdsAmong("column=3", 0b110000000, true);
        holdsAmong("column=1", 0b000000001, false);
    }

    private static void valueStory() {
        holdsAmong("story=0", 0b100010001, true);
        holdsAmong("story=8", 0b010000000, true);
        holdsAmong("story=8", 0b011000000, false);
    }

    private static void valueLength() {
        holdsAmong("length=9", 0b100010001, true);
        holdsAmong("length=2", 0b010000000, true);
        holdsAmong("length=2", 0b010100000, false);
    }

    private static void valueKind() {
        holdsAmong("kind=0", 0b010110001, true);
        holdsAmong("kind=1", 0b001000110, true);
        holdsAmong("kind=2", 0b100000000, true);
        holdsAmong("kind=3", 0b000001000, true);
        holdsAmong("kind=3", 0b000001001, false);
    }

    private static void valueOut() {
        holdsAmong("out=1", 0b000000001, true);
        holdsAmong("out=2", 0b000000001, false);
        holdsAmong("out=9", 0b111111111, true);
        holdsAmong("out=8", 0b111111111, false);
    }

    private static void valueShops() {
        holdsAmong("shops=0", 0b110111001, true);
        holdsAmong("shops=1", 0b000000010, true);
        holdsAmong("shops=3", 0b111111111, true);
        holdsAmong("shops=2", 0b110111111, true);
        holdsAmong("shops=0", 0b110111011, false);
    }

    /** Each time the rule asks of one DRAWER, by its COLUMN, STORY and LENGTH, what is above it. */
    private static void above(int column, int story, int set, int due) {
        String rule = "not(column=" + column + " and story=" + story + ")or above=";
        holdsAmong(rule + due, set, true);
        holdsAmong(rule + (due + 1), set, false);
    }

    private static void valueAbove() {
        above(0, 0, 0b000000001, 0);
        above(0, 0, 0b000000011, 1);
        above(0, 0, 0b000000111, 2);
        above(0, 0, 0b000001001, 1);
        above(0, 0, 0b001001111, 4);
        above(0, 0, 0b110110001, 0);
        above(0, 2, 0b001001111, 1);
        above(1, 2, 0b001001111, 2);
        above(0, 4, 0b011111111, 1);
        above(2, 0, 0b011111111, 2);
        above(2, 4, 0b011111111, 1);
        above(1, 5, 0b011111111, 0);
        above(3, 0, 0b111111111, 1);
        above(3, 8, 0b111111111, 0);
    }

    private static void theLowerOneIsLonger() {
        for (int lower = 1; lower <= 9; lower++) {
            DrawerWall w = Checks.wall("home 0 0 " + lower + ";home 0 1 5;");
            Checks.same("LENGTH " + lower + " below 5", w.may(0b11), lower > 5);
            Checks.same("the lower one alone", w.may(0b01), true);
            Checks.same("the upper one alone", w.may(0b10), true);
        }
        DrawerWall far = Checks.wall("wall 1 9;home 0 8 5;home 0 0 5;home 0 4 4;");
        Checks.same("eight STORIES apart, equally long", far.may(0b011), false);
        Checks.same("four STORIES apart, longer", far.may(0b110), true);
        Checks.same("shorter below the highest", far.may(0b101), false);
    }

    private static void inOneColumn() {
        DrawerWall w = Checks.wall("wall 4 3;home 1 0 1 wide;home 0 1 9;home 1 1 9;home 2 1 9;home 3 1 9;home 0 2 9 wide;");
        Checks.same("left of it", w.may(0b000011), true);
        Checks.same("its first COLUMN", w.may(0b000101), false);
        Checks.same("its second COLUMN", w.may(0b001001), false);
        Checks.same("right of it", w.may(0b010001), true);
        Checks.same("two wide ones with one COLUMN in common", w.may(0b100001), false);
        Checks.same("of one STORY, equally long", w.may(0b011110), true);
    }

    private static void noGraveIsOut() {
        DrawerWall w = Checks.wall("grave 0 0 9;home 1 0 1;shop 2 0 1;stove 0 1 1;");
        Checks.same("a grave", w.may(0b0001), false);
        Checks.same("a grave among others", w.may(0b1011), false);
        Checks.same("all others", w.may(0b1110), true);
        Checks.same("it breaks no RULE", w.broken(0b0001), DrawerWall.NONE);
    }

    private static void allRulesHoldForEachThatIsOut() {
        DrawerWall w = Checks.wall("home 0 0 1;home 1 0 1;home 2 0 1;rule column<2;rule 0<column;");
        Checks.same("both hold", w.may(0b010), true);
        Checks.same("the first doesn't", w.may(0b100), false);
        Checks.same("the second doesn't", w.may(0b001), false);
        Checks.same("not for one of two", w.may(0b110), false);
        Checks.same("not for the other", w.may(0b011), false);
    }

    private static void fourRulesThatHold() {
        DrawerWall w = Checks.wall("home 0 0 1;home 1 0 1;rule 1;rule out<3;rule column<2;rule length=1;");
        for (int set = 0; set < 4; set++) {
            Checks.same("may " + set, w.may(set), true);
            Checks.same("broken by " + set, w.broken(set), DrawerWall.NONE);
        }
    }

    private static void nothingIsOut() {
        DrawerWall w = Checks.wall("grave 0 0 1;home 1 0 1;rule 0;");
        Checks.same("no RULE is asked", w.may(0), true);
        Checks.same("none is broken", w.broken(0), DrawerWall.NONE);
        Checks.same("one is out", w.may(2), false);
        Checks.same("it is broken", w.broken(2), 0);
    }

    private static void theLeastRule() {
        DrawerWall w = Checks.wall("wall 4 4;home 0 0 1;home 1 0 1;home 2 0 1;home 3 0 1;"
            + "rule not column=3;rule not column=2;rule not column=1;rule not column=0;");
        for (int set = 0; set < 16; set++) {
            int due = DrawerWall.NONE;
            for (int d = 0; d < 4; d++) {
                due = (set & 1 << d) != 0 ? 3 - d : due;
            }
            Checks.same("broken by " + set, w.broken(set), due);
            Checks.same("may " + set, w.may(set), set == 0);
        }
        Checks.same("no RULES", Checks.wall("home 0 0 1;").broken(1), DrawerWall.NONE);
        DrawerWall shorter = Checks.wall("home 0 0 1;home 0 1 1;rule 1;");
        Checks.same("a SET that can't be, but by no RULE", shorter.broken(3), DrawerWall.NONE);
        Checks.same("it can't be", shorter.may(3), false);
    }
}
