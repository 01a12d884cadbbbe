/** Promises 33 and 34: book and told. */
public final class BookTest {
    private static final String TEXT = "boy abe 10;boy ben 20;boy cy 8;event dark abe fear 14;event oath ben shame 6;"
        + "event dog abe grief 5;event kite cy joy 9;takes fear 4;takes joy 0;fire 11;logs 1;turf 2;wet 4;";

    public static void main(String[] args) {
        faults();
        lines();
        tooLong();
        whyWrong();
        judgedAndLived();
        latest();
        Check.close();
    }

    private static void bad(String text, int kind, int place) {
        CampAshes x = Check.camp(TEXT);
        Check.due("book of " + text, Check.bookOf(x, text, 1), -2 - place);
        Check.due("fault of " + text, x.fault(), kind);
        Check.due("told, ahead of any", x.told(0), -1);
        Check.due("day", x.now(0), 0);
    }

    private static void good(String text, int lines) {
        CampAshes x = Check.camp(TEXT);
        Check.due("book of " + text, Check.bookOf(x, text, 0), -1);
        Check.due("lines of " + text, x.told(1), lines);
    }

    private static void faults() {
        bad("log", 1, 3);
        bad(";", 1, 0);
        bad("log log;", 1, 4);
        bad("boy;", 1, 0);
        bad("tells;", 1, 0);
        bad("3;", 1, 0);
        bad("day;", 1, 3);
        bad("day log;", 1, 4);
        bad("day 0;", 2, 4);
        bad("day 61;", 2, 4);
        bad("day 1000;", 1, 4);
        bad("al tells dark;", 3, 0);
        bad("dark tells dark;", 3, 0);
        bad("abe hears dark;", 1, 4);
        bad("abe log;", 1, 4);
        bad("abe tells ben;", 3, 10);
        bad("abe tells deer;", 3, 10);
        bad("abe tells tells;", 1, 10);
        bad("abe tells 3;", 1, 10);
        bad("abe lies dark dark;", 1, 14);
        bad("abe gives dark;", 1, 14);
        bad("abe gives dark dog 3;", 3, 15);
        bad("abe gives dark al 3;", 3, 15);
        bad("abe gives dark joy 3;", 1, 15);
        bad("abe gives dark ben 0;", 2, 19);
        bad("abe gives dark ben 41;", 2, 19);
        bad("abe gives dark ben;", 1, 18);
        bad("day 1;day 1;al", 3, 12);
    }

    private static void lines() {
        good("", 0);
        good(" \n", 0);
        good(Check.repeat("day 1;", 40), 40);
        bad(Check.repeat("day 1;", 40) + "day", 4, 240);
        bad(Check.repeat("day 1;", 40) + "log;", 4, 240);
        bad(Check.repeat("day 1;", 40) + "abe", 4, 240);
        bad(Check.repeat("day 1;", 40) + "al", 3, 240);
        bad(Check.repeat("day 1;", 40) + "dark", 3, 240);
        bad(Check.repeat("day 1;", 40) + ";", 1, 240);
        bad(Check.repeat("day 1;", 40) + "boy", 1, 240);
    }

    private static void tooLong() {
        good("day 1;" + Check.repeat(" ", 394), 1);
        bad("day 1;" + Check.repeat(" ", 395), 1, 400);
        bad("day 1;" + Check.repeat(" ", 393) + "day 1;", 1, 400);
        bad("day 1;" + Check.repeat(" ", 393) + "al tells", 3, 399);
        bad("day 1;" + Check.repeat(" ", 394) + "al tells", 1, 400);
        bad(Check.repeat(" ", 940), 1, 400);
    }

    private static void wrong(String text, int line, int why) {
        CampAshes x = Check.camp(TEXT);
        Check.due("book of " + text, Check.bookOf(x, text, 0), line);
        Check.due("why of " + text, x.told(0), why);
        Check.due("lines of " + text, x.told(1), line);
    }

    private static void whyWrong() {
        wrong("ben tells dark;", 0, 1);
        wrong("day 3;abe tells dark;", 1, 2);
        wrong("day 1;abe tells dark;abe tells dog;", 2, 4);
        wrong("ben lies dark;", 0, 11);
        wrong("day 3;abe lies dark;", 1, 12);
        wrong("abe lies dark;abe lies dark;", 1, 14);
        wrong("abe gives dark abe 1;", 0, 21);
        wrong("abe gives dark ben 15;", 0, 22);
        wrong("abe gives dark cy 1;", 0, 23);
        wrong("log;log;", 1, 31);
        wrong("rake;", 0, 41);
        wrong("abe tells dark;rake;rake;log;", 2, 41);
        CampAshes cold = Check.camp("boy a 1;event b a joy 1;fire 0;turf 0;");
        Check.due("heat 0", Check.bookOf(cold, "a tells b;", 0), 0);
        Check.due("why", cold.told(0), 3);
        Check.due("heat 0", Check.bookOf(cold, "a lies b;", 0), 0);
        Check.due("why", cold.told(0), 13);
        CampAshes hot = Check.camp("fire 27;");
        Check.due("heat 30", Check.bookOf(hot, "log;log;", 0), 1);
        Check.due("why", hot.told(0), 32);
        CampAshes late = Check.camp("");
        Check.due("400 days", Check.bookOf(late, Check.repeat("day 60;", 6) + "day 39;day 2;day 1;", 1), 7);
        Check.due("why", late.told(0), 51);
        Check.due("day", late.told(2), 399);
        Check.due("lived so far", late.now(0), 399);
        Check.due("one more", Check.bookOf(late, "day 1;day 1;", 1), 1);
        Check.due("day", late.now(0), 400);
    }

    private static void judgedAndLived() {
        String text = "abe tells dark; ben lies oath; abe gives dog ben 5; log; rake; day 2; cy tells kite; abe tells dog; day 9;";
        CampAshes x = Check.camp(TEXT);
        Check.due("judged", Check.bookOf(x, text, 0), 7);
        Check.due("why", x.told(0), 1);
        Check.due("lines", x.told(1), 7);
        Check.due("day then", x.told(2), 2);
        Check.due("over then", x.told(3), 0);
        Check.due("day now", x.now(0), 0);
        Check.due("over now", x.now(4), 5);
        Check.due("nothing to undo", x.undo(), -1);
        Check.due("lived", Check.bookOf(x, text, 1), 7);
        Check.due("day now", x.now(0), 2);
        Check.due("over now", x.now(4), 0);
        Check.due("oath", x.on(1, 1), 8);
        Check.due("undone at once", x.undo(), 0);
        Check.due("day again", x.now(0), 0);
        Check.due("told stays", x.told(1), 7);
        Check.due("told(4)", x.told(4), -1);
        Check.due("told(-1)", x.told(-1), -1);
        Check.due("no lines", Check.bookOf(x, "", 1), -1);
        Check.due("why", x.told(0), 0);
        Check.due("lines", x.told(1), 0);
        Check.due("over", x.told(3), 5);
        Check.due("nothing to undo", x.undo(), -1);
    }

    private static void latest() {
        CampAshes x = Check.camp(TEXT);
        Check.bookOf(x, "day 2;rake;", 0);
        Check.due("why", x.told(0), 41);
        Check.due("a fault", Check.bookOf(x, "day 2;day 3", 0), -2 - 11);
        Check.due("the latest without one", x.told(2), 2);
        Check.due("-1000", Check.bookOf(x, "day 4;", 2), -1000);
        Check.due("the latest", x.told(2), 2);
        Check.due("the tape stays", x.book(0), -1);
        Check.due("now that one", x.told(2), 4);
        Check.due("-1000", x.book(-1), -1000);
    }
}
