/** Promises 6 to 18: what is so, and what is done. */
public final class ActsTest {
    private static final String TEXT = "boy abe 10;boy ben 20;boy cy 8;event dark abe fear 14;event oath ben shame 6;"
        + "event dog abe grief 5;event kite cy joy 9;takes fear 4;takes joy 0;fire 11;logs 1;turf 2;wet 4;";

    public static void main(String[] args) {
        looks();
        telling();
        whyNotTell();
        lying();
        giving();
        logs();
        raking();
        daysGo();
        undoing();
        Check.close();
    }

    private static void looks() {
        CampAshes x = Check.camp(TEXT);
        Check.due("load", x.boy(0, 0), 19);
        Check.due("bears", x.boy(1, 1), 20);
        Check.due("over", x.boy(0, 2), 1);
        Check.due("not over", x.boy(1, 2), 0);
        Check.due("hushed", x.boy(0, 3), 0);
        Check.due("wept", x.boy(0, 4), 0);
        Check.due("events", x.boy(0, 5), 5);
        for (int[] none : new int[][] {{-1, 0}, {3, 0}, {0, -1}, {0, 6}, {7, 7}}) {
            Check.due("boy(" + none[0] + ", " + none[1] + ") throws", Check.boyThrows(x, none[0], none[1]), true);
        }
        Check.due("on(0, 0)", x.on(0, 0), 14);
        Check.due("on(0, 2)", x.on(0, 2), 0);
        Check.due("on(4, 0)", x.on(4, 0), -1);
        Check.due("on(-1, 0)", x.on(-1, 0), -1);
        Check.due("on(0, 3)", x.on(0, 3), -1);
        Check.due("on(0, -1)", x.on(0, -1), -1);
        Check.due("event(3, 0)", x.event(3, 0), 2);
        Check.due("event(2, 1)", x.event(2, 1), 2);
        Check.due("event(1, 2)", x.event(1, 2), 6);
        Check.due("event(1, 3)", x.event(1, 3), 6);
        Check.due("event(1, 4)", x.event(1, 4), -1);
        Check.due("event(1, -1)", x.event(1, -1), -1);
        Check.due("event(4, 0)", x.event(4, 0), -1);
        Check.due("event(-1, 0)", x.event(-1, 0), -1);
        Check.due("takes(2)", x.takes(2), 5);
        Check.due("takes(3)", x.takes(3), 2);
        Check.due("takes(0)", x.takes(0), 6);
        Check.due("takes(4)", x.takes(4), -1);
        Check.due("takes(-1)", x.takes(-1), -1);
        Check.due("ashes(4)", x.ashes(4), -1);
        Check.due("now(3)", x.now(3), 0);
        Check.due("now(4)", x.now(4), 5);
        Check.due("now(7)", x.now(7), 34);
        Check.due("now(-1)", x.now(-1), -1);
        Check.due("now(8)", x.now(8), -1);
    }

    private static void telling() {
        CampAshes x = Check.camp(TEXT);
        Check.due("tell(0, 0)", x.tell(0, 0), 0);
        Check.due("on", x.on(0, 0), 8);
        Check.due("what it weighed stays", x.event(0, 2), 14);
        Check.due("left", x.event(0, 3), 8);
        Check.due("ashes", x.ashes(0), 6);
        Check.due("heat", x.now(1), 10);
        Check.due("hushed", x.now(5), 1);
        Check.due("tell(2, 3)", x.tell(2, 3), 0);
        Check.due("joy takes 2", x.on(3, 2), 7);
        Check.due("tell(1, 1)", x.tell(1, 1), 0);
        Check.due("shame takes 3 and 1 of 9", x.on(1, 1), 2);
        CampAshes y = Check.camp("boy a 1;event b a joy 2;takes joy 9;");
        Check.due("takes what is on him at most", y.tell(0, 0), 0);
        Check.due("nothing left", y.on(0, 0), 0);
        Check.due("ashes of it", y.ashes(3), 2);
        Check.due("events", y.boy(0, 5), 0);
        CampAshes z = Check.camp("boy a 1;event b a joy 2;takes joy 0;fire 4;");
        Check.due("a telling of which nothing is taken", z.tell(0, 0), 0);
        Check.due("all is on him", z.on(0, 0), 2);
        Check.due("heat", z.now(1), 3);
        Check.due("hushed", z.boy(0, 3), 1);
    }

    private static void whyNotTell() {
        CampAshes x = Check.camp("boy a 9;boy b 9;event c a joy 9;wet 2;fire 2;turf 0;");
        Check.due("nothing on him", x.tell(1, 0), 1);
        Check.due("done", x.tell(0, 0), 0);
        Check.due("hushed", x.tell(0, 0), 4);
        x.days(1);
        Check.due("heat is 0", x.now(1), 0);
        Check.due("wet ahead of heat", x.tell(0, 0), 2);
        Check.due("nothing on him ahead of wet", x.tell(1, 0), 1);
        x.days(1);
        Check.due("heat", x.tell(0, 0), 3);
        Check.due("takes at heat 0", x.takes(3), 3);
        Check.due("lie, heat", x.lie(0, 0), 3);
        Check.due("lie, nothing", x.lie(1, 0), 1);
        Check.due("tell(2, 0)", x.tell(2, 0), -1);
        Check.due("tell(-1, 0)", x.tell(-1, 0), -1);
        Check.due("tell(0, 1)", x.tell(0, 1), -1);
        Check.due("tell(0, -1)", x.tell(0, -1), -1);
        CampAshes y = Check.camp("boy a 9;event c a joy 9;fire 1;");
        Check.due("told", y.tell(0, 0), 0);
        Check.due("heat 0 ahead of hushed", y.tell(0, 0), 3);
    }

    private static void lying() {
        CampAshes x = Check.camp("boy a 9;boy b 30;event c a joy 9;wet 3;fire 30;turf 9;");
        Check.due("lie(0, 0)", x.lie(0, 0), 0);
        Check.due("2 more", x.on(0, 0), 11);
        Check.due("over", x.boy(0, 2), 1);
        Check.due("green", x.now(6), 1);
        Check.due("heat", x.now(1), 29);
        Check.due("hushed", x.now(5), 1);
        Check.due("no ashes", x.ashes(3), 0);
        Check.due("hushed, too", x.lie(0, 0), 4);
        Check.due("nothing on him", x.lie(1, 0), 1);
        x.days(2);
        Check.due("wet", x.lie(0, 0), 2);
        Check.due("lie(0, 1)", x.lie(0, 1), -1);
        Check.due("lie(2, 0)", x.lie(2, 0), -1);
        CampAshes y = Check.camp("boy a 9;event c a joy 39;fire 30;turf 9;");
        for (int i = 0; i < 31; i++) {
            Check.due("lie " + i, y.lie(0, 0), 0);
            Check.due("on " + i, y.on(0, 0), Math.min(99, 41 + 2 * i));
            y.days(1);
        }
        Check.due("green", y.now(6), 31);
        Check.due("load", y.boy(0, 0), 99);
        CampAshes z = Check.camp("boy a 9;event c a joy 40;fire 30;turf 9;");
        for (int i = 0; i < 31; i++) {
            z.lie(0, 0);
            z.days(1);
        }
        Check.due("99 at most", z.on(0, 0), 99);
    }

    private static void giving() {
        CampAshes x = Check.camp(TEXT);
        Check.due("alike", x.give(0, 0, 0, 40), 1);
        Check.due("less", x.give(0, 0, 1, 15), 2);
        Check.due("less ahead of over", x.give(0, 0, 2, 15), 2);
        Check.due("over", x.give(0, 2, 2, 1), 3);
        Check.due("done", x.give(0, 0, 1, 14), 0);
        Check.due("off him", x.on(0, 0), 0);
        Check.due("on that one", x.on(0, 1), 14);
        Check.due("just what he bears", x.boy(1, 0), 20);
        Check.due("left on all", x.event(0, 3), 14);
        Check.due("whose it was", x.event(0, 0), 0);
        Check.due("nobody is hushed", x.now(5), 0);
        Check.due("one more", x.give(0, 2, 1, 1), 3);
        Check.due("n 0", x.give(0, 0, 1, 0), -1);
        Check.due("n 41", x.give(0, 0, 1, 41), -1);
        Check.due("no such b", x.give(3, 0, 1, 1), -1);
        Check.due("no such e", x.give(0, 4, 1, 1), -1);
        Check.due("no such c", x.give(0, 0, 3, 1), -1);
        Check.due("n 0, alike", x.give(0, 0, 0, 0), -1);
        Check.due("he tells what he holds", x.tell(1, 0), 0);
        Check.due("so much", x.on(0, 1), 8);
    }

    private static void logs() {
        CampAshes x = Check.camp("fire 28;logs 2;turf 0;");
        Check.due("log", x.log(), 0);
        Check.due("30 at most", x.now(1), 30);
        Check.due("logs", x.now(2), 1);
        Check.due("heat 30", x.log(), 2);
        Check.due("logs stay", x.now(2), 1);
        x.days(1);
        Check.due("log", x.log(), 0);
        Check.due("heat", x.now(1), 19);
        Check.due("none", x.log(), 1);
        CampAshes y = Check.camp("fire 30;logs 0;");
        Check.due("none ahead of heat", y.log(), 1);
    }

    private static void raking() {
        CampAshes x = Check.camp(TEXT);
        Check.due("no ashes", x.rake(), 1);
        x.tell(0, 0);
        x.tell(1, 1);
        Check.due("rake", x.rake(), 0);
        Check.due("none of 0", x.ashes(0), 0);
        Check.due("none of 1", x.ashes(1), 0);
        Check.due("no more", x.rake(), 1);
    }

    private static void daysGo() {
        CampAshes x = Check.camp(TEXT);
        Check.due("days(0)", x.days(0), -1);
        Check.due("days(61)", x.days(61), -1);
        Check.due("days(-1)", x.days(-1), -1);
        x.tell(0, 0);
        Check.due("days(1)", x.days(1), 1);
        Check.due("heat", x.now(1), 7);
        Check.due("nobody hushed", x.now(5), 0);
        Check.due("wept", x.boy(0, 4), 1);
        Check.due("not wept", x.boy(1, 4), 0);
        Check.due("wet on day 1", x.now(3), 0);
        x.days(2);
        Check.due("wet on day 3", x.now(3), 1);
        x.days(4);
        Check.due("wet on day 7", x.now(3), 1);
        for (int i = 0; i < 6; i++) {
            Check.due("days(60)", x.days(60), 60);
        }
        Check.due("day", x.now(0), 367);
        Check.due("days to 400", x.days(60), 33);
        Check.due("day", x.now(0), 400);
        Check.due("no more", x.days(1), 0);
        Check.due("wept", x.boy(2, 4), 400);
        Check.due("undo the 33", x.undo(), 7);
        Check.due("day", x.now(0), 367);
        CampAshes y = Check.camp("fire 30;turf 9;");
        y.days(1);
        Check.due("half of 30 and 9", y.now(1), 24);
    }

    private static void undoing() {
        CampAshes x = Check.camp(TEXT);
        Check.due("none", x.undo(), -1);
        x.tell(0, 1);
        x.give(0, 0, 0, 1);
        x.rake();
        x.days(0);
        Check.due("not done, not undone", x.undo(), -1);
        x.tell(0, 0);
        x.lie(1, 1);
        x.give(0, 2, 1, 5);
        x.log();
        x.rake();
        x.days(2);
        x.drawn(1, 5);
        Check.due("a book", Check.bookOf(x, "day 1; rake; log;", 1) >= 1, true);
        Check.due("undo the book", x.undo(), 7);
        Check.due("day", x.now(0), 3);
        Check.due("undo drawn", x.undo(), 6);
        Check.due("day", x.now(0), 2);
        Check.due("undo days", x.undo(), 5);
        Check.due("day", x.now(0), 0);
        Check.due("hushed again", x.now(5), 3);
        Check.due("ashes", x.ashes(0), 0);
        Check.due("undo rake", x.undo(), 4);
        Check.due("ashes", x.ashes(0), 6);
        Check.due("undo log", x.undo(), 3);
        Check.due("logs", x.now(2), 1);
        Check.due("undo give", x.undo(), 2);
        Check.due("on", x.on(2, 0), 5);
        Check.due("undo lie", x.undo(), 1);
        Check.due("green", x.now(6), 0);
        Check.due("undo tell", x.undo(), 0);
        Check.due("on", x.on(0, 0), 14);
        Check.due("heat", x.now(1), 11);
        Check.due("none", x.undo(), -1);
        for (int i = 0; i < 11; i++) {
            x.days(1);
        }
        for (int i = 7; i >= 0; i--) {
            Check.due("8 are kept", x.undo(), i);
        }
        Check.due("day", x.now(0), 3);
        Check.due("no ninth", x.undo(), -1);
        Check.bookOf(x, "rake;log;", 1);
        Check.due("a book of which no line was lived", x.undo(), -1);
        Check.bookOf(x, "log;", 0);
        Check.due("a book that was judged", x.undo(), -1);
    }
}
