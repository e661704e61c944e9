/** The document's paragraphs of A TEXT and of FAULTS: each bound, on both its sides. */
public final class TextBoundsTest {
    private static final String SIGNS = ";()+-*/<=";
    private static final String TEN = "wall 6 9;home 0 0 9;home 1 0 9;home 2 0 9;home 3 0 9;home 4 0 9;"
        + "shop 0 1 8;shop 1 1 8;shop 2 1 8;shop 3 1 8;shop 4 1 8;";
    private static final String FIVE = "home 0 0 1;shop 1 0 1;person 0;person 0;person 0;person 0;person 0;";
    private static final String FOUR = "rule 1;rule 2;rule 0;rule out;";

    public static void main(String[] args) {
        atMostSevenHundredBytes();
        everyByteAlone();
        everyByteBehindANumber();
        wordsAreTheLongestRow();
        everyLetterCounts();
        numbersHaveOneToFourDigits();
        blanksCountForNothing();
        anyNumberOfLines();
        everyLineEndsWithItsSign();
        wallIsTheFirstLine();
        atMostFourRules();
        perhapsAndInOrder();
        theFirstFaultAlongTheText();
        theTextsLengthWhereItEndsTooSoon();
        aTokenEndsWithTheText();
        fiveDigitsAreTooMuch();
        aNumberInAnExprIsAsItIs();
        tooManyOfAKind();
        anExprWithinSixOthers();
        whatMayBeginAnExprWithinSixOthers();
        theSeventhNot();
        noValue();
        aDrawerThatIsNotToldAhead();
        toldTwice();
        aPlaceThatIsTaken();
        noHomeNoShop();
        ofOneTokenTheLeast();
        Checks.end();
    }

    /** A rule that sums up ones, so long that the text has 700 bytes; the sum is told as 340. */
    private static String longText(String told) {
        StringBuilder text = new StringBuilder("home 0 0 1;rule 1");
        for (int i = 0; i < 339; i++) {
            text.append("+1");
        }
        return text.append(told).toString();
    }

    private static void atMostSevenHundredBytes() {
        DrawerWall w = Checks.wall(longText("=340;"));
        Checks.same("the last bytes count", w.broken(1), DrawerWall.NONE);
        Checks.same("the other way", Checks.wall(longText("=341;")).broken(1), 0);
        Checks.fault(1, longText("=34@x;"));
        Checks.fault(1, longText("=340@)"));
        Checks.fault(1, longText("=340 "));
        Checks.same("700 bytes are told", longText("=340;").length(), 700);
        DrawerWall full = new DrawerWall();
        Checks.feed(full, longText("=340;"));
        Checks.same("more don't come", full.feed(0, 0, 0, 0, 0), DrawerWall.NONE);
        Checks.same("none of them", full.count(10), 700);
        Checks.same("what was told is whole", full.city(700), 0);
    }

    private static boolean isBlank(int b) {
        return b == 32 || b == 10;
    }

    private static void everyByteAlone() {
        for (int b = 0; b < 256; b++) {
            DrawerWall w = new DrawerWall();
            w.feed(b << 24, 0, 0, 0, 0);
            Checks.same("byte " + b, w.city(1), isBlank(b) ? 0 : 1);
            Checks.same("place of byte " + b, w.fault(), isBlank(b) ? DrawerWall.NONE : 0);
        }
    }

    /** 'reach 2', the byte, ';': a digit makes the NUMBER too great, a second ';' is one too many. */
    private static void everyByteBehindANumber() {
        for (int b = 0; b < 256; b++) {
            DrawerWall w = new DrawerWall();
            String text = "reach 2" + (char) b + ";";
            boolean isDigit = b >= '0' && b <= '9';
            int due = isBlank(b) ? 0 : isDigit ? 2 : 1;
            int place = isBlank(b) ? DrawerWall.NONE : isDigit ? 6 : b == ';' ? 8 : 7;
            Checks.same("reach 2 and byte " + b, Checks.tell(w, text), due);
            Checks.same("place of it", w.fault(), place);
        }
        for (int b = 0; b < 256; b++) {
            DrawerWall w = new DrawerWall();
            boolean joins = b < 128 && SIGNS.indexOf((char) b) > 2;
            boolean isDigit = b >= '0' && b <= '9';
            Checks.same("rule 1 and byte " + b, Checks.tell(w, "rule 1" + (char) b + "1;"), joins || isDigit ? 0 : 1);
            Checks.same("place of it", w.fault(),
                joins || isDigit ? DrawerWall.NONE : isBlank(b) || b == ';' ? 7 : 6);
        }
    }

    private static void wordsAreTheLongestRow() {
        Checks.fault(1, "@homewide 0 0 1;");
        Checks.fault(1, "home 0 0 1 @wideo;");
        Checks.fault(1, "@reac 2;");
        Checks.fault(3, "rule @outout;");
        Checks.fault(3, "rule @notout;");
        Checks.fault(1, "rule 1 @andout;");
        Checks.fine("home0 0 1wide;rule not(out)and 1or 2;");
        Checks.fault(3, "rule @a;");
        Checks.fault(3, "rule @z;");
        Checks.fault(3, "rule @outz;");
        Checks.fault(1, "rule @{a;");
        Checks.fault(1, "rule @`;");
        Checks.fault(1, "rule @Out;");
        Checks.fault(1, "rule out@A;");
    }

    /** A word with one letter changed is another word. */
    private static void everyLetterCounts() {
        String[] words = {"wall", "home", "shop", "grave", "stove", "person", "reach", "rent", "wind", "rule"};
        for (String word : words) {
            for (int i = 0; i < word.length(); i++) {
                Checks.fault(1, "@" + word.substring(0, i) + "q" + word.substring(i + 1) + " 1 1 1;");
            }
        }
        String two = "home 0 0 1;shop 1 0 1;";
        String[] lines = {"home 0 1 1 @wide;", "person 0 @wants 1;", "person 0 @weight 1;", "rule 1 @and 1;", "rule 1 @or 1;"};
        for (String line : lines) {
            Checks.fine(two + line.replace("@", ""));
            int at = line.indexOf('@');
            for (int i = at + 1; isLetter(line.charAt(i)); i++) {
                Checks.fault(1, two + line.substring(0, i) + "q" + line.substring(i + 1));
            }
        }
        for (int i = 0; i < 3; i++) {
            Checks.fault(3, "rule @" + "not".substring(0, i) + "q" + "not".substring(i + 1) + " 1;");
        }
    }

    private static void numbersHaveOneToFourDigits() {
        Checks.same("one digit", Checks.wall("reach 3;").count(4), 3);
        Checks.same("four digits", Checks.wall("reach 0003;").count(4), 3);
        Checks.fault(2, "reach @00003;");
        Checks.same("four digits of CHANCE", Checks.wall("wind 1000;home 0 0 1;").count(2), 1);
        Checks.fault(2, "wind @00000;");
        Checks.fault(1, "reach @:;");
        Checks.fault(1, "reach @/;");
    }

    private static void blanksCountForNothing() {
        Checks.fine("  \n\nreach\n2 ;\n");
        Checks.fine("reach2;wind3;rent 1 2 3;");
        Checks.fault(1, "reach 2;@\t");
        Checks.fault(1, "reach 2;@\r");
        Checks.fault(2, "rent @123;");
        Checks.fault(1, "rent 1 23@;");
        Checks.fault(1, "@re ach 2;");
    }

    private static void anyNumberOfLines() {
        DrawerWall w = Checks.wall("reach 5;");
        Checks.same("no LINE", w.city(0), 0);
        Checks.same("is a CITY", w.count(4), 2);
        Checks.same("one LINE", Checks.tell(w, "reach 5;"), 0);
        Checks.same("is one", w.count(4), 5);
        Checks.fine("wall 1 1;reach 1;rent 1 1 1;wind 1;home 0 0 1;person 0;rule 1;");
    }

    private static void everyLineEndsWithItsSign() {
        String[] lines = {"wall 3 4", "home 0 0 1", "shop 0 0 1", "grave 0 0 1", "stove 0 0 1 wide", "reach 2",
            "rent 0 0 0", "wind 0", "rule 1"};
        for (String line : lines) {
            Checks.fine(line + ";");
            Checks.fault(1, line);
            Checks.fault(1, line + "@)");
            Checks.fault(1, line + " @home;");
            Checks.fault(1, line + ";@;");
        }
        Checks.fault(1, "home 0 0 1;person 0");
        Checks.fault(1, "home 0 0 1;person 0 @home 1 1 1;");
    }

    private static void wallIsTheFirstLine() {
        Checks.fine("wall 2 2;reach 2;");
        Checks.fault(4, "reach 2;@wall 2 2;");
        Checks.fault(4, "wall 2 2;@wall 2 2;");
        Checks.fault(4, "home 0 0 1;@wall;");
        Checks.same("it need not be told", Checks.wall("reach 2;").count(0), 3);
    }

    private static void atMostFourRules() {
        Checks.same("no RULE", Checks.wall("reach 2;").count(5), 0);
        Checks.same("four", Checks.wall(FOUR).count(5), 4);
        Checks.fault(2, FOUR + "@rule 1;");
    }

    private static void perhapsAndInOrder() {
        String two = "home 0 0 1;shop 1 0 1;";
        Checks.fine(two + "person 0;person 0 wants 1;person 0 weight 2;person 0 wants 1 weight 2;");
        Checks.fault(1, two + "person 0 weight 2 @wants 1;");
        Checks.fault(1, two + "person 0 wants 1 @wants 1;");
        Checks.fault(1, two + "person 0 weight 2 @weight 2;");
        Checks.fault(1, "home 0 0 1 wide @wide;");
        Checks.fault(1, "home @wide 0 0 1;");
        Checks.fault(1, "wall 3 @;");
        Checks.fault(1, "wall 3 4 @5;");
        Checks.fault(1, "rent 1 2 3 @4;");
    }

    private static void theFirstFaultAlongTheText() {
        Checks.fault(2, "reach @0;x");
        Checks.fault(1, "@x;reach 0;");
        Checks.fault(5, "home 0 0 1;home 0 @0 0 wide wide;");
        Checks.fault(2, "home @3 4 0;");
        Checks.fault(2, "home 0 @4 0;");
        Checks.fault(3, "rule @foo + 12345;reach 0;");
        Checks.fault(2, "rule 12 + @12345 + foo;");
        Checks.fault(4, "reach 2;@reach 0;");
    }

    private static void theTextsLengthWhereItEndsTooSoon() {
        String text = "home 0 0 1 wide;person 0 weight 3;rule(not 1+out);";
        for (int n = 0; n <= text.length(); n++) {
            DrawerWall w = new DrawerWall();
            Checks.feed(w, text);
            boolean isWhole = n == 0 || text.charAt(n - 1) == ';';
            boolean cutsAWord = n > 0 && n < text.length() && isLetter(text.charAt(n - 1)) && isLetter(text.charAt(n));
            if (!cutsAWord) {
                Checks.same("the first " + n, w.city(n), isWhole ? 0 : 1);
                Checks.same("its place", w.fault(), isWhole ? DrawerWall.NONE : n);
            }
        }
        Checks.fault(1, "reach 2 \n \n");
        Checks.fault(1, "@reac");
        Checks.fault(3, "rule @ou");
    }

    private static void cut(String text, int n, int fault, int place) {
        DrawerWall w = new DrawerWall();
        Checks.feed(w, text);
        Checks.same("the first " + n + " of " + text, w.city(n), fault);
        Checks.same("its place", w.fault(), place);
    }

    /** What lies on the tape behind the text is no part of its last TOKEN. */
    private static void aTokenEndsWithTheText() {
        cut("reach 25;", 7, 1, 7);
        cut("reach 25;", 8, 2, 6);
        cut("rule outs;", 8, 1, 8);
        cut("rule outs;", 9, 3, 5);
        cut("rule 12345;", 9, 1, 9);
        cut("rule 12345;", 10, 2, 5);
        cut("reach 5;x", 8, 0, DrawerWall.NONE);
        cut("reach 5;x", 9, 1, 8);
    }

    private static boolean isLetter(char c) {
        return c >= 'a' && c <= 'z';
    }

    private static void fiveDigitsAreTooMuch() {
        String[] ahead = {"wall ", "wall 3 ", "reach ", "rent ", "rent 1 ", "rent 1 2 ", "wind ", "home ", "home 0 ",
            "home 0 0 ", "home 0 0 1;person ", "home 0 0 1;person 0 wants ", "home 0 0 1;person 0 weight ", "rule ",
            "rule 1 + ", "rule (", "rule not ", "rule 1 < ", "rule 1 and "};
        for (String told : ahead) {
            Checks.fault(2, told + "@00000;");
            Checks.fault(2, told + "@10000;");
            Checks.fault(2, told + "@99999999999999999999");
        }
        Checks.fault(1, "@00000;");
        Checks.fault(1, "reach 2 @00000;");
        Checks.fault(1, "rule 1 @00000;");
    }

    private static void aNumberInAnExprIsAsItIs() {
        Checks.same("9999", Checks.wall("home 0 0 1;rule 9998 < 9999;").broken(1), DrawerWall.NONE);
        Checks.same("0", Checks.wall("home 0 0 1;rule 0;").broken(1), 0);
        Checks.same("0000", Checks.wall("home 0 0 1;rule 0000;").broken(1), 0);
        Checks.same("0010", Checks.wall("home 0 0 1;rule 0010 = 10;").broken(1), DrawerWall.NONE);
    }

    private static void tooManyOfAKind() {
        Checks.fine(TEN);
        Checks.fault(2, TEN + "@stove");
        Checks.fault(2, TEN + "@home 0 0 0;");
        Checks.fine(FIVE);
        Checks.fault(2, FIVE + "@person");
        Checks.fault(2, FIVE + "@person 1;");
        Checks.fine(FOUR);
        Checks.fault(2, FOUR + "@rule");
        Checks.fault(2, FOUR + "@rule foo;");
        Checks.fine(TEN + "person 0;rule 1;reach 3;wind 1;rent 1 1 1;");
    }

    private static void anExprWithinSixOthers() {
        Checks.fine("rule (((((1)))));");
        Checks.fault(2, "rule ((((((@1))))));");
        Checks.fine("rule (((((1)+(2)))+((3))));");
        Checks.fault(2, "rule 1+(2-(3*(4/(5<(6=(@7))))));");
        Checks.fault(2, "rule (((((1)+((@2))))));");
        Checks.fine("rule not(not(not(not(not(not 1)))));");
        Checks.fault(2, "rule not(not(not(not(not(not(@1))))));");
        Checks.fine("rule (((((1)))));rule (((((1)))));rule (1);rule 1;");
    }

    private static void whatMayBeginAnExprWithinSixOthers() {
        String[] tooMuch = {"0", "9999", "10000", "out", "column", "not", "and", "or", "home", "wide", "x", "("};
        for (String token : tooMuch) {
            Checks.fault(2, "rule ((((((@" + token);
            Checks.fault(2, "rule ((((((@" + token + " 1))))));");
        }
        String[] canNot = {")", ";", "+", "-", "*", "/", "<", "=", "#", ">", "A"};
        for (String token : canNot) {
            Checks.fault(1, "rule ((((((@" + token);
        }
        Checks.fault(1, "rule ((((((");
    }

    private static void theSeventhNot() {
        Checks.fine("rule not not not not not not 1;");
        Checks.fault(2, "rule not not not not not not @not 1;");
        Checks.fault(2, "rule not not not not not not @not");
        Checks.fault(1, "rule not not not not not not");
        Checks.fine("rule not not not(not not not not 1);");
        Checks.fine("rule not not not not 1 and not not not not 1 or not not not not 1;");
        Checks.fine("rule (not not not not not not(not not not not not not 1));");
        Checks.fault(2, "rule (1 and not not not not not not @not 1);");
    }

    private static void noValue() {
        String[] values = {"column", "story", "length", "kind", "out", "shops", "above"};
        for (String value : values) {
            Checks.fine("rule " + value + ";");
            Checks.fine("rule 1+" + value + ";");
            Checks.fault(3, "rule @" + value + "s;");
            Checks.fault(3, "rule @" + value.substring(1) + ";");
            for (int i = 0; i < value.length(); i++) {
                Checks.fault(3, "rule @" + value.substring(0, i) + "q" + value.substring(i + 1) + ";");
            }
        }
        String[] places = {"", "(", "not ", "1+", "1-", "1*", "1/", "1<", "1=", "1 and ", "1 or "};
        for (String ahead : places) {
            Checks.fault(3, "rule " + ahead + "@rule;");
            Checks.fault(3, "rule " + ahead + "@and 1;");
            Checks.fault(3, "rule " + ahead + "@or");
        }
        Checks.fault(3, "rule 1+@not 1;");
        Checks.fault(3, "rule 1<@not 1;");
        Checks.fault(3, "rule 1*@not 1;");
        Checks.fine("rule 1 and not 1;");
        Checks.fault(1, "rule 1 @rule;");
        Checks.fault(1, "rule 1 @out;");
        Checks.fault(1, "rule 1 @not;");
    }

    private static void aDrawerThatIsNotToldAhead() {
        Checks.fine("home 0 0 1;person 0;");
        Checks.fault(3, "person @0;home 0 0 1;");
        Checks.fault(3, "home 0 0 1;person @1;home 1 0 1;");
        Checks.fine("home 0 0 1;home 1 0 1;person 1;");
        Checks.fault(3, "home 0 0 1;person 0 wants @1;shop 1 0 1;");
        Checks.fine("home 0 0 1;shop 1 0 1;person 0 wants 1;");
        Checks.fine(TEN + "person 0 wants 9;");
        Checks.fault(3, TEN + "person 0 wants @10;");
        Checks.fault(3, TEN + "person @10;");
        Checks.fault(3, TEN + "person @9999;");
    }

    private static void toldTwice() {
        String[] lines = {"reach 2;", "rent 1 1 1;", "wind 3;"};
        for (String line : lines) {
            String word = line.substring(0, line.indexOf(' '));
            Checks.fine(line);
            Checks.fault(4, line + "@" + line);
            Checks.fault(4, line + "home 0 0 1;rule 1;@" + word);
            Checks.fault(4, "wall 2 2;" + line + "@" + word + " 99999;");
        }
        Checks.fine("reach 2;rent 1 1 1;wind 3;");
    }

    private static void aPlaceThatIsTaken() {
        Checks.fault(5, "home 0 0 1;home 0 @0 1;");
        Checks.fine("home 0 0 1;home 0 1 1;");
        Checks.fault(5, "home 1 0 1;home 0 0 1 @wide;");
        Checks.fine("home 1 0 1;home 0 0 1;");
        Checks.fine("home 1 1 1;home 0 0 1 wide;");
        Checks.fault(5, "home 0 0 1 wide;home 1 @0 1;");
        Checks.fine("home 0 0 1 wide;home 2 0 1;");
    }

    private static void noHomeNoShop() {
        String four = "home 0 0 1;shop 1 0 1;grave 2 0 1;stove 0 1 1;";
        int[] noHomes = {1, 2, 3};
        for (int d : noHomes) {
            Checks.fault(5, four + "person @" + d + ";");
        }
        int[] noShops = {0, 2, 3};
        for (int d : noShops) {
            Checks.fault(5, four + "person 0 wants @" + d + ";");
        }
        Checks.fine(four + "person 0 wants 1;");
    }

    private static void ofOneTokenTheLeast() {
        Checks.fault(2, "home 0 0 1;home 0 @00000 1;");
        Checks.fault(2, "shop 0 0 1;person @00000;");
        Checks.fault(2, "home 0 0 1;person 0 wants @00000;");
        Checks.fault(2, "person @00000;");
        Checks.fault(2, "rule ((((((@foo))))));");
        Checks.fault(3, "rule (((((@foo)))));");
    }
}
