/** Promises 35 and 36: sentence and said. */
public final class SentenceTest {
    private static final String TEXT = "boy abe 10;boy ben 20;boy cy 8;boy dan 30;event dark abe fear 14;event oath ben shame 6;"
        + "event dog abe grief 5;event kite cy joy 9;";

    public static void main(String[] args) {
        faults();
        tooMany();
        tooLong();
        ones();
        which();
        overTime();
        Check.close();
    }

    private static void bad(String text, int kind, int place) {
        CampAshes x = Check.camp(TEXT);
        Check.sentenceOf(x, "light");
        Check.due("sentence of " + text, Check.sentenceOf(x, text), -1 - place);
        Check.due("fault of " + text, x.fault(), kind);
        Check.due("the sentence stays", x.said(0), 3);
    }

    private static void good(String text, int ones) {
        CampAshes x = Check.camp(TEXT);
        Check.due("sentence of " + text, Check.sentenceOf(x, text), ones);
        Check.due("fault of " + text, x.fault(), 0);
    }

    private static void faults() {
        bad("", 1, 0);
        bad("  ", 1, 2);
        bad("over over", 1, 5);
        bad("over or", 1, 7);
        bad("over and and", 1, 9);
        bad("or over", 1, 0);
        bad("not", 1, 3);
        bad("(over", 1, 5);
        bad("(over;", 1, 5);
        bad("over)", 1, 4);
        bad("()", 1, 1);
        bad("abe", 1, 0);
        bad("boy", 1, 0);
        bad("has", 1, 3);
        bad("has abe", 3, 4);
        bad("has deer", 3, 4);
        bad("his over", 1, 4);
        bad("his 3", 1, 4);
        bad("load 3", 1, 5);
        bad("load < a", 1, 7);
        bad("load <= 3", 1, 6);
        bad("load < 1000", 1, 7);
        bad("load ( 3", 1, 5);
        bad("over;", 1, 4);
        bad("over.", 1, 4);
        bad("3", 1, 0);
    }

    private static void tooMany() {
        good(Check.repeat("over or ", 19) + "over", 20);
        bad(Check.repeat("over or ", 20) + "over", 4, 160);
        bad(Check.repeat("over or ", 20) + "abe", 1, 160);
        bad(Check.repeat("over or ", 20), 1, 160);
        good(Check.repeat("over or ", 18) + "not over", 20);
        bad(Check.repeat("over or ", 19) + "not over", 4, 156);
        bad(Check.repeat("over or ", 19) + "(over)", 4, 153);
        good(Check.repeat("not ", 7) + "over", 8);
        bad(Check.repeat("not ", 8) + "over", 4, 32);
        good(Check.repeat("(", 7) + "over" + Check.repeat(")", 7), 8);
        bad(Check.repeat("(", 8) + "over" + Check.repeat(")", 8), 4, 8);
        bad(Check.repeat("(", 9) + "over" + Check.repeat(")", 9), 4, 8);
        bad(Check.repeat("(not ", 4) + "or", 1, 20);
        bad(Check.repeat("(not ", 4) + "over", 4, 20);
        good("(((((((over)))) and ((light))) or not over))", 8 + 3 + 2);
    }

    private static void tooLong() {
        good("over" + Check.repeat(" ", 196), 1);
        bad("over" + Check.repeat(" ", 197), 1, 200);
        bad("over" + Check.repeat(" ", 195) + "or light", 1, 200);
        bad("over" + Check.repeat(" ", 195) + "of light", 1, 199);
        bad("has" + Check.repeat(" ", 194) + "abe abe", 3, 197);
        bad("has" + Check.repeat(" ", 194) + "dark or", 1, 200);
    }

    private static void ones() {
        good("over", 1);
        good("not over", 2);
        good("(over)", 2);
        good("has dark", 1);
        good("load<0 or bears=999 and tears>00", 3);
        good("number = 3", 1);
        good("not(over or not hushed)and light", 6);
    }

    private static void says(CampAshes x, String text, int... boys) {
        Check.due("sentence " + text, Check.sentenceOf(x, text) > 0, true);
        Check.due("how many: " + text, x.said(-1), boys.length);
        for (int k = 0; k < boys.length; k++) {
            Check.due("the one at " + k + ": " + text, x.said(k), boys[k]);
        }
        Check.due("behind the last: " + text, x.said(boys.length), -1);
        Check.due("said(-2): " + text, x.said(-2), -1);
    }

    private static void which() {
        CampAshes x = Check.camp(TEXT);
        Check.due("no sentence", x.said(-1), -1);
        Check.due("no sentence", x.said(0), -1);
        x.give(0, 2, 1, 1);
        says(x, "has dog", 0, 1);
        x.give(0, 2, 1, 1);
        x.tell(0, 0);
        x.lie(1, 1);
        says(x, "over", 0, 2);
        says(x, "not over", 1, 3);
        says(x, "hushed", 0, 1);
        says(x, "light", 3);
        says(x, "has dog", 0, 1);
        says(x, "his dog", 0);
        says(x, "has kite or his oath", 1, 2);
        says(x, "load < 10", 2, 3);
        says(x, "load = 10", 1);
        says(x, "load > 9", 0, 1);
        says(x, "bears > 8", 0, 1, 3);
        says(x, "bears = 8", 2);
        says(x, "number > 1", 2, 3);
        says(x, "number = 0 or number = 3 and over", 0);
        says(x, "(number = 0 or number = 3) and light", 3);
        says(x, "over and hushed or light", 0, 3);
        says(x, "light or over and hushed", 0, 3);
        says(x, "not over and hushed", 1);
        says(x, "not (over and hushed)", 1, 2, 3);
        says(x, "not not over", 0, 2);
        says(x, "tears = 0", 0, 1, 2, 3);
        says(x, "tears > 0");
        CampAshes none = new CampAshes();
        says(none, "not over");
    }

    private static void overTime() {
        CampAshes x = Check.camp(TEXT);
        Check.sentenceOf(x, "tears > 1");
        Check.due("nobody", x.said(-1), 0);
        x.days(2);
        Check.due("two", x.said(-1), 2);
        Check.due("the first", x.said(0), 0);
        x.undo();
        Check.due("the sentence is not undone", x.said(-1), 0);
    }
}
