/** Promises 31 and 32: drawn and odds. */
public final class DrawnTest {
    private static final String TEXT = "boy a 10;boy b 12;boy c 8;event e a fear 14;event f b shame 9;event g c joy 9;"
        + "event h a joy 5;fire 20;logs 9;turf 3;wet 5;";

    public static void main(String[] args) {
        notAsTold();
        byHand();
        noEvents();
        asActs();
        atTheEnd();
        odds();
        Check.close();
    }

    private static void notAsTold() {
        CampAshes x = Check.camp(TEXT);
        Check.due("drawn(0, 1)", x.drawn(0, 1), -1);
        Check.due("drawn(61, 1)", x.drawn(61, 1), -1);
        Check.due("odds(0, 0, 1)", x.odds(0, 0, 1), -1);
        Check.due("odds(0, 31, 1)", x.odds(0, 31, 1), -1);
        Check.due("odds(3, 1, 1)", x.odds(3, 1, 1), -1);
        Check.due("odds(-1, 1, 1)", x.odds(-1, 1, 1), -1);
        Check.due("nothing to undo", x.undo(), -1);
        Check.due("drawn(60, 1)", x.drawn(60, 1), 60);
        Check.due("undo", x.undo(), 0);
        Check.due("day", x.now(0), 0);
    }

    private static void byHand() {
        // Seed 0: x becomes 12345: the draw of 4 is 48 % 4, a log.
        CampAshes x = Check.camp("logs 3;fire 5;turf 0;");
        Check.due("drawn", x.drawn(1, 0), 1);
        Check.due("a log", x.now(2), 2);
        Check.due("heat", x.now(1), 4);
    }

    private static void noEvents() {
        // With no events each boy takes one draw alone.
        CampAshes x = Check.camp("boy a 1;boy b 1;logs 20;fire 0;turf 0;");
        CampAshes y = Check.camp("logs 20;fire 0;turf 0;");
        int seed = 77;
        int logs = 20;
        for (int i = 0; i < 30; i++) {
            int drawn = seed * 1103515245 + 12345;
            if ((drawn >>> 8) % 4 == 0 && logs > 0) {
                logs--;
            }
            y.drawn(1, seed);
            for (int k = 0; k < 3; k++) {
                seed = seed * 1103515245 + 12345;
            }
        }
        x.drawn(30, 77);
        Check.due("logs", x.now(2), logs);
        Check.due("day by day", y.now(2), logs);
        Check.due("days", x.now(0), 30);
    }

    /** The same days by the acts themselves. */
    private static void asActs() {
        for (int seed = -3; seed < 40; seed++) {
            CampAshes x = Check.camp(TEXT);
            CampAshes y = Check.camp(TEXT);
            Check.due("drawn", x.drawn(12, seed), 12);
            int[] state = {seed};
            for (int day = 0; day < 12; day++) {
                if (draw(state, 4) == 0) {
                    y.log();
                }
                for (int b = 0; b < 3; b++) {
                    int act = draw(state, 4);
                    if (act < 2) {
                        y.tell(b, draw(state, 4));
                    } else if (act == 2) {
                        y.lie(b, draw(state, 4));
                    }
                }
                y.days(1);
            }
            for (int what = 0; what < 8; what++) {
                Check.due("seed " + seed + ", now(" + what + ")", x.now(what), y.now(what));
            }
            for (int e = 0; e < 4; e++) {
                Check.due("ashes", x.ashes(e), y.ashes(e));
                for (int b = 0; b < 3; b++) {
                    Check.due("on", x.on(e, b), y.on(e, b));
                    Check.due("wept", x.boy(b, 4), y.boy(b, 4));
                }
            }
        }
    }

    private static int draw(int[] state, int n) {
        state[0] = state[0] * 1103515245 + 12345;
        return (state[0] >>> 8) % n;
    }

    private static void atTheEnd() {
        CampAshes x = Check.camp(TEXT);
        for (int i = 0; i < 6; i++) {
            x.days(60);
        }
        x.days(35);
        Check.due("five are left", x.drawn(60, 9), 5);
        Check.due("none is left", x.drawn(60, 9), 0);
        Check.due("what was 0 is not undone", x.undo(), 7 - 1 + 1);
        Check.due("day", x.now(0), 395);
    }

    private static void odds() {
        CampAshes x = Check.camp(TEXT);
        for (int b = 0; b < 3; b++) {
            for (int seed : new int[] {0, 5, -7, Integer.MAX_VALUE - 3}) {
                int fine = 0;
                for (int i = 0; i < 30; i++) {
                    x.drawn(20, seed + i);
                    fine += 1 - x.boy(b, 2);
                    x.undo();
                }
                Check.due("odds(" + b + ", 30, " + seed + ")", x.odds(b, 30, seed), fine);
            }
        }
        Check.due("all stays", x.now(0), 0);
        Check.due("nothing to undo", x.undo(), -1);
        for (int i = 0; i < 6; i++) {
            x.days(60);
        }
        x.days(40);
        Check.due("at the end, over", x.odds(0, 5, 1), 0);
        Check.due("at the end, not over", x.odds(1, 5, 1), 5);
    }
}
