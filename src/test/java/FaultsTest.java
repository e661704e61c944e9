/** Promises 3 and 4: every FAULT of a text, its place, and what is just not one. */
public final class FaultsTest {
    private static final String TEN = "wall 6 9;home 0 0 1;home 1 0 1;home 2 0 1;home 3 0 1;home 4 0 1;"
        + "shop 0 1 1;shop 1 1 1;shop 2 1 1;shop 3 1 1;shop 4 1 1;";

    public static void main(String[] args) {
        canNotStand();
        endsTooSoon();
        tooMuch();
        tooMany();
        nested();
        unknown();
        toldTwice();
        doesNotFit();
        theLeastOfOneToken();
        none();
        Checks.end();
    }

    private static void fault(int fault, String marked) {
        Checks.fault(fault, marked);
    }

    private static void fine(String text) {
        Checks.fine(text);
    }

    private static void canNotStand() {
        fault(1, "@x");
        fault(1, "@;");
        fault(1, "@7;");
        fault(1, "@Home 0 0 1;");
        fault(1, "reach 2;@\t");
        fault(1, "reach 2;@\r\n");
        fault(1, "reach 2@\u00e9;");
        fault(1, "reach @two;");
        fault(1, "reach @-2;");
        fault(1, "reach 2 @3;");
        fault(1, "reach 2;@;");
        fault(1, "home 0 0 @wide;");
        fault(1, "home 0 0 1 @thin;");
        fault(1, "home 0 0 1 wide @wide;");
        fault(1, "home 0 0 1;person 0 weight 1 @wants 0;");
        fault(1, "home 0 0 1;person 0 @0;");
        fault(1, "home 0 0 1;person @wants 0;");
        fault(1, "@homes 0 0 1;");
        fault(1, "@come 0 0 1;");
        fault(1, "@hom 0 0 1;");
        fault(1, "rule @;");
        fault(1, "rule 1 @1;");
        fault(1, "rule 1 @out;");
        fault(1, "rule 1 @not 1;");
        fault(1, "rule 1 < 1 @< 1;");
        fault(1, "rule 1 < 1 @= 1;");
        fault(1, "rule (1@;");
        fault(1, "rule 1@);");
        fault(1, "rule (@);");
        fault(1, "rule @- 1;");
        fault(1, "rule 1 + @* 1;");
        fault(1, "rule 1 @> 1;");
        fault(1, "rule (1) @(1);");
        fault(1, "rule 1 @12345;");
        fault(1, "home @wide;");
        fault(1, "@12345");
    }

    private static void endsTooSoon() {
        fault(1, "home");
        fault(1, "home 0 0 1");
        fault(1, "home 0 0 1 wide \n ");
        fault(1, "rule 1 +");
        fault(1, "rule (1");
        fault(1, "rule not");
        fault(1, "wall 1");
        fault(1, "home 0 0 1;person 0 wants");
        fault(1, "rule ((((((");
    }

    private static void tooMuch() {
        fault(2, "wall @0 1;");
        fault(2, "wall @7 1;");
        fault(2, "wall 1 @0;");
        fault(2, "wall 1 @10;");
        fault(2, "reach @0;");
        fault(2, "reach @10;");
        fault(2, "reach @00002;");
        fault(2, "rent @100 0 0;");
        fault(2, "rent 0 @100 0;");
        fault(2, "rent 0 0 @100;");
        fault(2, "wind @1001;");
        fault(2, "wind @10000;");
        fault(2, "home @3 0 1;");
        fault(2, "home 0 @4 1;");
        fault(2, "wall 2 2;home @2 0 1;");
        fault(2, "wall 2 2;home 0 @2 1;");
        fault(2, "home 0 0 @0;");
        fault(2, "home 0 0 @10;");
        fault(2, "home 2 0 1 @wide;");
        fault(2, "wall 1 1;stove 0 0 1 @wide;");
        fault(2, "home 0 0 1;person 0 weight @100;");
        fault(2, "home 0 0 1;person @00000;");
        fault(2, "rule @12345;");
        fault(2, "rule 1 + @99999999999;");
        fine("wall 6 9;home 5 8 9;reach 9;rent 99 99 99;wind 1000;person 0 weight 99;");
        fine("wall 1 1;home 0 0 1;reach 1;rent 0 0 0;wind 0;person 0 weight 0;");
        fine("reach 0002;rule 9999;");
    }

    private static void tooMany() {
        fine(TEN);
        fault(2, TEN + "@grave 5 0 1;");
        fault(2, TEN + "@home");
        String people = "person 0;person 0 wants 5;person 0;person 0;person 4 wants 9 weight 7;";
        fine(TEN + people);
        fault(2, TEN + people + "@person 99999;");
        fine("rule 1;rule 1;rule 1;rule 1;");
        fault(2, "rule 1;rule 1;rule 1;rule 1;@rule 1;");
    }

    private static void nested() {
        fine("rule (((((1)))));");
        fault(2, "rule ((((((@1))))));");
        fault(2, "rule ((((((@(1)))))));");
        fault(2, "rule ((((((@foo))))));");
        fault(2, "rule ((((((@or))))));");
        fault(2, "rule ((((((@not 1))))));");
        fault(2, "rule ((((((@out))))));");
        fault(2, "rule ((((((@12345))))));");
        fault(1, "rule ((((((@)))))));");
        fault(1, "rule ((((((@+))))));");
        fine("rule (((((1)))))+(((((1)))));");
        fine("rule not not not not not not 1;");
        fault(2, "rule not not not not not not @not 1;");
        fine("rule not not not not not not (not 1);");
        fine("rule not not not not not not 1 and not not not not not not 1;");
        fault(3, "rule not not not not not not @nots;");
    }

    private static void unknown() {
        fault(3, "rule @foo;");
        fault(3, "rule @zz;");
        fault(3, "rule @a;");
        fault(3, "rule 1 + @nout;");
        fault(3, "rule @aut;");
        fault(3, "rule @and 1;");
        fault(3, "rule 1 or @or;");
        fault(3, "rule 1 + @not 1;");
        fault(3, "rule 1 < @not 1;");
        fault(3, "rule (@home);");
        fault(3, "person @0;");
        fault(3, "home 0 0 1;person @1;");
        fault(3, "home 0 0 1;person @9999;");
        fault(3, "home 0 0 1;person 0 wants @1;shop 0 1 1;");
    }

    private static void toldTwice() {
        fault(4, "reach 2;@wall 3 3;");
        fault(4, "wall 3 3;@wall 3 3;");
        fault(4, "reach 2;@reach 2;");
        fault(4, "rent 0 0 0;home 0 0 1;@rent 0 0 0;");
        fault(4, "wind 0;@wind 0;");
        fault(4, "wind 0;@wind");
    }

    private static void doesNotFit() {
        fault(5, "home 0 0 1;shop 0 @0 1;");
        fault(5, "home 0 1 1 wide;shop 1 @1 1;");
        fault(5, "home 1 0 1;shop 0 0 1 @wide;");
        fault(5, "home 1 0 1 wide;shop 0 0 1 @wide;");
        fine("home 1 0 1;shop 0 1 1 wide;home 2 1 1;");
        fault(5, "shop 0 0 1;person @0;");
        fault(5, "home 0 0 1;person 0 wants @0;");
        fault(5, "home 0 0 1;grave 1 0 1;person 0 wants @1;");
        fault(5, "stove 0 0 1;person @0;");
    }

    private static void theLeastOfOneToken() {
        fault(2, "wall 2 2;home 1 0 1 @wide;");
        fault(2, "shop 0 0 1;person @00000;");
        fault(2, "home 0 0 1;home 0 @00000 1;");
        fault(1, "wall @;home 9 9 9;x");
        fault(2, "rule 1;rule 1;rule 1;rule 1;@rule;");
    }

    private static void none() {
        fine("");
        fine(" \n");
        fine("reach2;rule1;rule not(out)or 1;wind\n3;home 0 0 1;rent 1 2 3;");
        fine("rule column+story*length/kind-out<shops and above=1 or not 1;");
        fine("rule (1 or 0)+(1 and 0)*(not 1)<(1=1);");
    }
}
