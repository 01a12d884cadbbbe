import java.util.function.ToIntFunction;

/** Promises 1 to 5 and 29 to 39: each sentence that names an edge; and that a refused call changes nothing. */
public final class CallEdgesTest {
    private static final String CAMP = "boy abe 10;boy ben 20;event dark abe fear 14;event oath ben shame 6;fire 11;logs 1;turf 2;wet 4;";

    public static void main(String[] args) {
        aNewObject();
        feed();
        feedBytes();
        end();
        camp();
        fault();
        aNewCamp();
        tag();
        byteAt();
        draws();
        drawn();
        odds();
        book();
        actsBehindQuestions();
        bookLives();
        told();
        toldWhy();
        sentence();
        sentenceWords();
        said();
        image();
        restore();
        count();
        aFullCamp();
        the512thCall();
        refusedCalls();
        Check.close();
    }

    private static void aNewObject() {
        Check.of("An empty CAMP; an empty tape.");
        CampAshes x = new CampAshes();
        CampAshes y = new CampAshes();
        Check.due("as behind a CAMP of no LINES", y.camp(), 0);
        Check.due("all", Look.all(x), Look.all(y));
        Check.due("bytes", x.count(4), 0);
        Check.due("boys", x.count(0), 0);
        Check.due("events", x.count(1), 0);
        Check.due("day, heat, logs", 10000 * x.now(0) + 100 * x.now(1) + x.now(2), 1002);
        Check.due("a BOOK of no LINES", x.book(1), -1);
        Check.due("a SENTENCE of no ONES", x.sentence(), -1);
        Check.due("its fault", x.fault(), 1);
        Check.due("no laws", x.laws(), -1);
    }

    private static void feed() {
        Check.of("how many it has; NONE, and none come, if it would have more than 940");
        CampAshes x = new CampAshes();
        for (int n = 20; n <= 940; n += 20) {
            Check.due("feed", x.feed(1, 2, 3, 4, 5), n);
        }
        Check.due("one more", x.feed(1, 2, 3, 4, 5), -1);
        Check.due("none came", x.count(4), 940);
        for (int n = 921; n < 940; n++) {
            CampAshes y = new CampAshes();
            for (int i = 0; i < 47; i++) {
                y.feed(0, 0, 0, 0, 0);
            }
            Check.due("cut", y.end(n), true);
            Check.due("feed at " + n, y.feed(0, 0, 0, 0, 0), -1);
            Check.due("none came at " + n, y.count(4), n);
        }
        x.end(920);
        Check.due("feed at 920", x.feed(1, 2, 3, 4, 5), 940);
        x.end(919);
        Check.due("feed at 919", x.feed(1, 2, 3, 4, 5), 939);
        // What was refused has left no byte behind: the text is as it was.
        CampAshes z = new CampAshes();
        Check.type(z, "over" + Check.repeat(" ", 936));
        Check.due("refused", z.feed(0x3F3F3F3F, 0, 0, 0, 0), -1);
        z.end(4);
        Check.due("as it was", z.sentence(), 1);
    }

    private static void feedBytes() {
        Check.of("Twenty bytes come behind the tape, of each number the highest first");
        CampAshes x = new CampAshes();
        x.feed(0x6F766572, 0x206F7220, 0x6E6F7420, 0x6C696768, 0x74202020);
        Check.due("over or not light", x.sentence(), 3);
        x.feed(0x20202020, 0x20202020, 0x20202020, 0x20202020, 0x2020206F);
        x.feed(0x76657220, 0x20202020, 0x20202020, 0x20202020, 0x20202020);
        Check.due("behind the tape", x.sentence(), 1);
        // Numbers below 0 have bytes of 128 and more.
        x.feed(0x0AFFFA0A, 0xFFFA0AFF, 0xFA000000, 0, 0);
        x.end(9);
        Check.due("bytes of 255 and 250", x.laws(), 8);
        x.feed(-1, -1, -1, -1, -1);
        x.end(3);
        Check.due("a HEAT of 255", x.laws(), -1);
        x.feed(Integer.MIN_VALUE, 0, 0, 0, 0);
        Check.due("128 is no TOKEN", x.camp(), -1);
    }

    private static void end() {
        Check.of("The tape has its first n bytes alone: true; false, if it has not so many, or n is below 0.");
        CampAshes x = new CampAshes();
        Check.due("end(0) of none", x.end(0), true);
        Check.due("end(1) of none", x.end(1), false);
        Check.type(x, "boy a 1;boy b 1;");
        for (int n : new int[] {Integer.MIN_VALUE, -1, 17, 940, Integer.MAX_VALUE}) {
            Check.due("end(" + n + ")", x.end(n), false);
            Check.due("it has all", x.count(4), 16);
        }
        Check.due("end(16)", x.end(16), true);
        Check.due("it has all", x.count(4), 16);
        Check.due("end(8)", x.end(8), true);
        Check.due("it has 8", x.count(4), 8);
        Check.due("the others are gone", x.end(16), false);
        Check.due("a CAMP of one LINE", x.camp(), 1);
        Check.due("none is left", x.end(1), false);
        Check.due("end(0)", x.end(0), true);
    }

    private static void camp() {
        Check.of("The tape (empty then, here and below) is the CAMP now: how many LINES; -1 less the place of a FAULT: it stays.");
        CampAshes x = Check.camp(CAMP);
        x.tell(0, 0);
        Check.sentenceOf(x, "over");
        String before = Look.world(x);
        Check.due("a FAULT at 0", Check.campOf(x, "?"), -1);
        Check.due("it stays", Look.world(x), before);
        Check.due("the tape is empty", x.count(4), 0);
        Check.due("a FAULT behind LINES", Check.campOf(x, "boy c 3;fire 3;logs 4;turf 5;wet 6;takes fear 7;takes fear 8;"), -1 - 54);
        Check.due("it stays", Look.world(x), before);
        Check.due("a FAULT at 900", Check.campOf(x, Check.repeat(" ", 940)), -901);
        Check.due("it stays", Look.world(x), before);
        Check.due("what can be undone, too", x.undo(), 0);
        Check.due("no LINES", Check.campOf(x, ""), 0);
        Check.due("an empty one", x.count(0), 0);
        Check.due("each LINE counts", Check.campOf(x, "fire 1;takes joy 1;takes fear 1;boy a 1;event b a joy 1;wet 2;logs 1;turf 1;"), 8);
    }

    private static void fault() {
        Check.of("The kind of the FAULT of the latest camp(), book() or sentence() (a book() of -1000 leaves it); 0 without one and ahead of any.");
        CampAshes x = new CampAshes();
        Check.due("ahead of any", x.fault(), 0);
        String[] camps = {"?", "boy a 0;", "wet 2;wet 2;", "boy a 1;boy b 1;boy c 1;boy d 1;boy e 1;boy f 1;boy g 1;boy h 1;"};
        for (int kind = 1; kind <= 4; kind++) {
            Check.campOf(x, camps[kind - 1]);
            Check.due("of a CAMP", x.fault(), kind);
            Check.due("-1000", Check.bookOf(x, "log;", 2), -1000);
            Check.due("it is left", x.fault(), kind);
        }
        Check.campOf(x, CAMP);
        Check.due("without one", x.fault(), 0);
        String[] books = {"?", "day 0;", "cy tells dark;", Check.repeat("log;", 41)};
        for (int kind = 1; kind <= 4; kind++) {
            Check.bookOf(x, books[kind - 1], 1);
            Check.due("of a BOOK", x.fault(), kind);
            x.end(0);
            x.laws();
            x.boy(0, 0);
            x.tell(7, 7);
            x.image(0);
            x.restore(0);
            Check.due("others leave it", x.fault(), kind);
        }
        Check.bookOf(x, "rake;", 1);
        Check.due("a WRONG one is none", x.fault(), 0);
        String[] sentences = {"?", null, "has cow", Check.repeat("not ", 9)};
        for (int kind = 1; kind <= 4; kind++) {
            if (sentences[kind - 1] != null) {
                Check.sentenceOf(x, sentences[kind - 1]);
                Check.due("of a SENTENCE", x.fault(), kind);
            }
        }
        Check.sentenceOf(x, "over");
        Check.due("without one", x.fault(), 0);
    }

    private static void aNewCamp() {
        Check.of("A new CAMP: DAY 0, no ashes, nobody has WEPT or is HUSHED, no SENTENCE.");
        CampAshes x = Check.camp(CAMP);
        x.days(1);
        x.tell(0, 0);
        x.log();
        x.lie(1, 1);
        Check.sentenceOf(x, "over");
        Check.campOf(x, CAMP);
        Check.due("all is as in a new object", Look.world(x), Look.world(Check.camp(CAMP)));
        Check.due("day", x.now(0), 0);
        Check.due("ashes", x.ashes(0), 0);
        Check.due("wept", x.boy(0, 4), 0);
        Check.due("hushed", x.now(5), 0);
        Check.due("no sentence", x.said(-1), -1);
        Check.due("nothing to undo", x.undo(), -1);
        Check.due("what the new one does not tell is as without", Check.campOf(x, ""), 0);
        Check.due("all is as in a new object", Look.world(x), Look.world(new CampAshes()));
        Check.campOf(x, "boy a 1;takes fear 9;takes shame 9;takes grief 9;takes joy 9;fire 9;logs 9;turf 9;wet 9;");
        Check.campOf(x, "boy a 1;");
        Check.due("nor what an earlier one told", Look.world(x), Look.world(Check.camp("boy a 1;")));
        Check.due("a CAMP with a FAULT", Check.campOf(x, "boy a 1;boy b 2;event c a joy 3;wet 5;wet 5;"), -39);
        Check.campOf(x, "boy a 1;");
        Check.due("nor what that one told", Look.world(x), Look.world(Check.camp("boy a 1;")));
    }

    private static void tag() {
        Check.of("TAG of a BOY: his NAME, ' bears ' and his LOAD as digits, ' of ' and how much he BEARS, and ' weeps' behind it, if he is OVER.");
        String[][] due = {{"a 1;", "", "a bears 0 of 1"}, {"a 1;", "event e a joy 1;", "a bears 1 of 1"},
            {"a 1;", "event e a joy 2;", "a bears 2 of 1 weeps"}, {"abcdefg 9;", "event e abcdefg joy 9;", "abcdefg bears 9 of 9"},
            {"z 10;", "event e z joy 10;", "z bears 10 of 10"}, {"z 60;", "event e z joy 40;event f z joy 20;", "z bears 60 of 60"},
            {"z 60;", "event e z joy 40;event f z joy 21;", "z bears 61 of 60 weeps"},
            {"z 60;", "event e z joy 40;event f z joy 40;event g z joy 19;", "z bears 99 of 60 weeps"},
            {"z 60;", "event e z joy 40;event f z joy 40;event g z joy 20;", "z bears 100 of 60 weeps"},
            {"z 59;", "event e z joy 40;event f z joy 40;event g z joy 29;", "z bears 109 of 59 weeps"}};
        for (String[] one : due) {
            CampAshes x = Check.camp("boy " + one[0] + one[1]);
            Check.due("tag", Check.tagOf(x, 0), one[2]);
            Check.due("its bytes", x.tag(0), one[2].length());
        }
        StringBuilder heavy = new StringBuilder("boy zzzzzzz 60;");
        for (int e = 0; e < 10; e++) {
            heavy.append("event e").append((char) ('a' + e)).append(" zzzzzzz joy 40;");
        }
        CampAshes x = Check.camp(heavy + "fire 30;turf 9;");
        for (int i = 0; i < 150; i++) {
            x.lie(0, i / 30);
            x.days(1);
        }
        Check.due("heavy", Check.tagOf(x, 0), "zzzzzzz bears 695 of 60 weeps");
        for (int e = 5; e < 10; e++) {
            String lie = "zzzzzzz lies e" + (char) ('a' + e) + ";day 1;";
            Check.due("15 lies", Check.bookOf(x, Check.repeat(lie, 15), 1), -1);
            Check.due("15 lies more", Check.bookOf(x, Check.repeat(lie, 15), 1), -1);
        }
        Check.due("the heaviest that can be", Check.tagOf(x, 0), "zzzzzzz bears 990 of 60 weeps");
        Check.of("TAG of a BOY: how many bytes; NONE: no such one.");
        for (int b : new int[] {Integer.MIN_VALUE, -1, 1, 7, Integer.MAX_VALUE}) {
            Check.due("tag(" + b + ")", x.tag(b), -1);
        }
        Check.due("nobody", new CampAshes().tag(0), -1);
    }

    private static void byteAt() {
        Check.of("Byte i of the latest TAG; NONE: none such.");
        CampAshes x = Check.camp("boy abe 10;boy b 7;event e abe joy 14;");
        for (int i : new int[] {Integer.MIN_VALUE, -1, 0, 1, Integer.MAX_VALUE}) {
            Check.due("ahead of any, " + i, x.byteAt(i), -1);
        }
        x.tag(0);
        String text = "abe bears 14 of 10 weeps";
        for (int i = 0; i < text.length(); i++) {
            Check.due("byte " + i, x.byteAt(i), text.charAt(i));
        }
        for (int i : new int[] {Integer.MIN_VALUE, -1, 24, 25, 63, 64, Integer.MAX_VALUE}) {
            Check.due("none such, " + i, x.byteAt(i), -1);
        }
        x.tag(2);
        Check.due("the latest TAG, behind a NONE", x.byteAt(23), 's');
        x.tag(1);
        Check.due("the last of a shorter one", x.byteAt(13), '7');
        Check.due("behind it", x.byteAt(14), -1);
        Check.campOf(x, "");
        Check.due("a new CAMP leaves it", x.byteAt(0), 'b');
    }

    /** The draws by way of long numbers, without wrapping by itself. */
    private static final class Draws {
        private long x;

        Draws(int seed) {
            x = seed & 0xFFFFFFFFL;
        }

        int draw(int n) {
            x = (x * 1103515245L + 12345L) % 4294967296L;
            return (int) (x / 256 % n);
        }
    }

    /** n DAYS DRAWN, act by act. */
    private static void byActs(CampAshes x, int n, int seed) {
        Draws draws = new Draws(seed);
        for (int day = 0; day < n; day++) {
            if (draws.draw(4) == 0) {
                x.log();
            }
            for (int b = 0; b < 3; b++) {
                int act = draws.draw(4);
                if (act < 2) {
                    x.tell(b, draws.draw(3));
                } else if (act == 2) {
                    x.lie(b, draws.draw(3));
                }
            }
            x.days(1);
        }
    }

    private static void draws() {
        Check.of("for each draw of n x becomes x * 1103515245 + 12345 (an int, wrapping), the draw is (x >>> 8) % n");
        String three = "boy a 10;boy b 12;boy c 8;event e a fear 14;event f b shame 9;event g c joy 9;";
        int[] seeds = {0, 1, -1, 2, 1000000, Integer.MIN_VALUE, Integer.MAX_VALUE, -123456789, 2147000000, -2147000000};
        for (int seed : seeds) {
            CampAshes x = Check.camp(three + "fire 20;logs 20;turf 6;wet 5;");
            CampAshes y = Check.camp(three + "fire 20;logs 20;turf 6;wet 5;");
            Check.due("drawn", x.drawn(30, seed), 30);
            byActs(y, 30, seed);
            Check.due("30 days by " + seed, Look.world(x), Look.world(y));
        }
        Check.of("he lies about it (each, if it can be); then the DAY.");
        for (String hard : new String[] {"logs 0;", "fire 0;turf 0;logs 0;", "fire 0;turf 0;logs 3;", "fire 30;turf 9;", "fire 1;turf 1;",
            "wet 2;", "takes fear 9;takes shame 9;takes joy 9;fire 30;turf 9;"}) {
            for (int seed = 0; seed < 8; seed++) {
                CampAshes x = Check.camp(three + hard);
                CampAshes y = Check.camp(three + hard);
                x.drawn(25, seed);
                byActs(y, 25, seed);
                Check.due("25 days of " + hard + " by " + seed, Look.world(x), Look.world(y));
            }
        }
        Check.of("a draw of all EVENTS (none: no draw)");
        CampAshes none = Check.camp("boy a 10;boy b 12;logs 20;fire 0;turf 0;");
        Draws draws = new Draws(77);
        int logs = 20;
        for (int day = 0; day < 40; day++) {
            logs -= draws.draw(4) == 0 && logs > 0 ? 1 : 0;
            draws.draw(4);
            draws.draw(4);
        }
        none.drawn(40, 77);
        Check.due("logs", none.now(2), logs);
    }

    private static void drawn() {
        Check.of("n (1 to 60) DAYS DRAWN by a seed: how many went by; NONE: not as told.");
        CampAshes x = Check.camp(CAMP);
        String before = Look.world(x);
        for (int n : new int[] {Integer.MIN_VALUE, -1, 0, 61, Integer.MAX_VALUE}) {
            Check.due("drawn(" + n + ", 1)", x.drawn(n, 1), -1);
        }
        Check.due("all stays", Look.world(x), before);
        Check.due("1", x.drawn(1, 1), 1);
        Check.due("60", x.drawn(60, 1), 60);
        Check.due("the day", x.now(0), 61);
        Check.pass(x, 280);
        Check.due("59 are left", x.drawn(60, 1), 59);
        String last = Look.world(x);
        Check.due("none is left", x.drawn(60, 1), 0);
        Check.due("nothing is drawn then", Look.world(x), last);
        CampAshes end = Check.camp("logs 20;fire 0;turf 0;");
        Check.pass(end, 400);
        end.drawn(60, 0);
        Check.due("no LOG on day 400", end.now(2), 20);
    }

    private static void odds() {
        Check.of("Of n (1 to 30) seeds x, x and 1, .. by how many a BOY is not OVER behind 20 DAYS DRAWN from now on; NONE: no such ones.");
        CampAshes x = Check.camp("boy a 12;boy b 7;event e a fear 14;event f b shame 9;fire 20;logs 9;turf 3;wet 5;");
        for (int n : new int[] {Integer.MIN_VALUE, -1, 0, 31, Integer.MAX_VALUE}) {
            Check.due("odds(0, " + n + ", 1)", x.odds(0, n, 1), -1);
        }
        for (int b : new int[] {Integer.MIN_VALUE, -1, 2, 7, Integer.MAX_VALUE}) {
            Check.due("odds(" + b + ", 1, 1)", x.odds(b, 1, 1), -1);
        }
        for (int seed : new int[] {Integer.MAX_VALUE, Integer.MIN_VALUE, -1, 5, 900}) {
            for (int b = 0; b < 2; b++) {
                int fine = 0;
                for (int n = 1; n <= 30; n++) {
                    CampAshes y = Check.camp("boy a 12;boy b 7;event e a fear 14;event f b shame 9;fire 20;logs 9;turf 3;wet 5;");
                    y.drawn(20, seed + n - 1);
                    fine += 1 - y.boy(b, 2);
                    Check.due("odds(" + b + ", " + n + ", " + seed + ")", x.odds(b, n, seed), fine);
                }
            }
        }
        // No DAY is WET here, so that the twentieth counts.
        String dry = "boy a 12;boy b 7;event e a joy 14;event f b joy 9;takes joy 0;fire 20;turf 6;";
        CampAshes z = Check.camp(dry);
        for (int seed = 0; seed < 100; seed++) {
            CampAshes y = Check.camp(dry);
            y.drawn(20, seed);
            Check.due("dry odds by " + seed, z.odds(0, 1, seed) + z.odds(1, 1, seed), 2 - y.boy(0, 2) - y.boy(1, 2));
        }
        CampAshes late = Check.camp("boy a 12;boy b 7;event e a fear 14;event f b shame 7;fire 20;logs 9;turf 3;wet 5;");
        Check.pass(late, 400);
        Check.due("no DAY is left, over", late.odds(0, 30, 1), 0);
        Check.due("no DAY is left, not over", late.odds(1, 30, 1), 30);
    }

    private static void book() {
        Check.of("the LINE that is WRONG; NONE: none; -2 less the place of a FAULT");
        CampAshes x = Check.camp(CAMP);
        Check.due("the first", Check.bookOf(x, "rake;", 0), 0);
        Check.due("the last of 40", Check.bookOf(x, Check.repeat("day 1;", 39) + "rake;", 0), 39);
        Check.due("none of 40", Check.bookOf(x, Check.repeat("day 1;", 40), 0), -1);
        Check.due("none of none", Check.bookOf(x, "", 0), -1);
        Check.due("a FAULT at 0", Check.bookOf(x, ";", 0), -2);
        Check.due("a FAULT at 400", Check.bookOf(x, Check.repeat(" ", 401), 0), -402);
        Check.due("a FAULT behind a WRONG LINE", Check.bookOf(x, "rake;day 0;", 0), -2 - 9);
        Check.due("nothing was told by it", x.told(1), 0);
        Check.of("it is judged, all staying as it is (lives 0), or lived as far as it is not WRONG (1)");
        String before = Look.world(x);
        Check.due("judged", Check.bookOf(x, "day 3;log;rake;", 0), 2);
        Check.due("all stays", Look.world(x), before);
        Check.due("nothing to undo", x.undo(), -1);
        Check.due("lived", Check.bookOf(x, "day 3;log;rake;day 1;", 1), 2);
        Check.due("as far as that", x.now(0), 3);
        Check.due("the log, too", x.now(2), 0);
        Check.due("undone whole", x.undo(), 0);
        Check.due("all is as ahead", Look.world(x), before);
        Check.due("a FAULT, to be lived", Check.bookOf(x, "day 3;log;?", 1), -2 - 10);
        Check.due("nothing is lived of it", Look.world(x), before);
        // Nothing of an earlier BOOK is left in the LINES of the next one.
        String[] books = {"log;", "rake;", "day 60;", "abe gives oath ben 40;", "ben lies dark;", "ben tells dark;"};
        int[] due = {0, 41, 0, 22, 11, 1};
        for (int i = 0; i < 36; i++) {
            Check.bookOf(x, books[i / 6], 0);
            Check.bookOf(x, books[i % 6], 0);
            Check.due(books[i % 6] + " behind " + books[i / 6], x.told(0), due[i % 6]);
        }
    }

    /** What was only asked, judged or undone leaves nothing behind that an act would start from. */
    private static void actsBehindQuestions() {
        Check.of("it is judged, all staying as it is (lives 0)");
        for (int ask = 0; ask < 6; ask++) {
            for (int act = 0; act < 9; act++) {
                CampAshes x = Check.camp(CAMP);
                CampAshes y = Check.camp(CAMP);
                x.tell(0, 0);
                y.tell(0, 0);
                ask(x, ask);
                Check.due("act " + act + " behind " + ask, act(x, act), act(y, act));
                Check.due("all behind act " + act + ", " + ask, Look.world(x), Look.world(y));
            }
        }
    }

    private static void ask(CampAshes x, int which) {
        if (which == 0) {
            Check.bookOf(x, "rake;log;day 9;", 0);
        } else if (which == 1) {
            x.odds(0, 3, 7);
        } else if (which == 2) {
            x.calm(0);
        } else if (which == 3) {
            x.rake();
            x.undo();
        } else if (which == 4) {
            x.image(1);
            x.days(5);
            x.restore(1);
        } else {
            Check.bookOf(x, "rake;rake;", 1);
            x.undo();
        }
    }

    private static int act(CampAshes x, int which) {
        switch (which) {
            case 0: return x.tell(1, 1);
            case 1: return x.lie(1, 1);
            case 2: return x.give(0, 0, 1, 3);
            case 3: return x.log();
            case 4: return x.rake();
            case 5: return x.days(3);
            case 6: return x.drawn(4, 9);
            case 7: return x.calm(0) + 100 * x.odds(0, 9, 1);
            default: return Check.bookOf(x, "rake;day 1;ben tells oath;rake;log;", 1);
        }
    }

    private static void bookLives() {
        Check.of("-1000: another lives (the tape stays)");
        CampAshes x = Check.camp(CAMP);
        Check.type(x, "day 3;");
        String before = Look.all(x);
        for (int lives : new int[] {Integer.MIN_VALUE, -1, 2, 3, Integer.MAX_VALUE}) {
            Check.due("book(" + lives + ")", x.book(lives), -1000);
            Check.due("all stays", Look.all(x), before);
        }
        Check.due("the tape's text, too", x.book(1), -1);
        Check.due("it is lived", x.now(0), 3);
        Check.due("empty, another lives", x.book(2), -1000);
    }

    private static void told() {
        Check.of("Of the latest book() that had no FAULT (and was not -1000)");
        CampAshes x = Check.camp(CAMP);
        for (int what = -1; what <= 4; what++) {
            Check.due("ahead of any", x.told(what), -1);
        }
        Check.bookOf(x, "day", 0);
        x.book(2);
        Check.due("ahead of any without a FAULT", x.told(0), -1);
        Check.bookOf(x, "day 5;rake;", 0);
        Check.due("why", x.told(0), 41);
        Check.due("LINES", x.told(1), 1);
        Check.due("the DAY", x.told(2), 5);
        Check.due("who is OVER", x.told(3), 1);
        Check.bookOf(x, "day 7;day", 0);
        Check.bookOf(x, "day 7;", 2);
        Check.due("a FAULT and -1000 leave it", x.told(2), 5);
        Check.campOf(x, "");
        Check.due("a new CAMP leaves it", x.told(3), 1);
        Check.of("NONE: another what, or ahead of any.");
        for (int what : new int[] {Integer.MIN_VALUE, -1, 4, Integer.MAX_VALUE}) {
            Check.due("told(" + what + ")", x.told(what), -1);
        }
    }

    private static void wrong(String camp, String text, int line, int why) {
        for (int lives = 0; lives < 2; lives++) {
            CampAshes x = Check.camp(camp);
            Check.due("book of " + text, Check.bookOf(x, text, lives), line);
            Check.due("why: " + text, x.told(0), why);
            Check.due("LINES that are not: " + text, x.told(1), line);
        }
    }

    private static void toldWhy() {
        Check.of("0 why it was WRONG (0: it was not; 1 to 4 as for telling, 11 to 14 lying, 21 to 23 giving, 31, 32 a LOG, 41 raking");
        String two = "boy a 9;boy b 9;event e a joy 30;event f b joy 30;wet 2;turf 0;logs 1;";
        String[] acts = {"tells", "lies"};
        for (int act = 0; act < 2; act++) {
            wrong(two, "a " + acts[act] + " f;", 0, 10 * act + 1);
            wrong(two, "day 1;a " + acts[act] + " e;", 1, 10 * act + 2);
            wrong(two + "fire 1;", "a tells e;b " + acts[act] + " f;", 1, 10 * act + 3);
            wrong(two, "a lies e;a " + acts[act] + " e;log;", 1, 10 * act + 4);
        }
        wrong(two, "a gives e a 1;", 0, 21);
        wrong(two, "a gives e b 31;", 0, 22);
        wrong(two, "a gives e b 1;", 0, 23);
        wrong(two, "log;log;", 1, 31);
        wrong(two + "fire 30;", "log;", 0, 32);
        wrong(two, "a tells e;rake;rake;", 2, 41);
        CampAshes fine = Check.camp(two);
        Check.due("a fine one", Check.bookOf(fine, "a tells e;b lies f;log;rake;day 1;", 1), -1);
        Check.due("why", fine.told(0), 0);
        Check.due("LINES", fine.told(1), 5);
        Check.of("51: fewer DAYS are left");
        CampAshes x = Check.camp(two);
        Check.pass(x, 340);
        Check.due("60 of 60", Check.bookOf(x, "day 60;", 0), -1);
        Check.due("the DAY then", x.told(2), 400);
        Check.due("60 and 1", Check.bookOf(x, "day 60;day 1;", 0), 1);
        Check.due("why", x.told(0), 51);
        x.days(1);
        Check.due("60 of 59", Check.bookOf(x, "day 60;", 1), 0);
        Check.due("why", x.told(0), 51);
        Check.due("none of them went", x.now(0), 341);
        Check.due("59 of 59", Check.bookOf(x, "day 59;", 1), -1);
        Check.due("day 400", x.now(0), 400);
        Check.due("one more", Check.bookOf(x, "day 1;", 1), 0);
    }

    private static void sentence() {
        Check.of("The tape is the SENTENCE now: how many ONES (each not, bracket and other one); -1 less the place of a FAULT: it stays.");
        CampAshes x = Check.camp(CAMP);
        Check.due("one", Check.sentenceOf(x, "over"), 1);
        Check.due("a bracket", Check.sentenceOf(x, "(over)"), 2);
        Check.due("a not", Check.sentenceOf(x, "not over"), 2);
        Check.due("all", Check.sentenceOf(x, "not (over or not light) and load < 3"), 6);
        Check.sentenceOf(x, "over");
        Check.due("a FAULT at 0", Check.sentenceOf(x, "?"), -1);
        Check.due("it stays", x.said(0), 0);
        Check.due("a FAULT behind ONES", Check.sentenceOf(x, "not over or light?"), -18);
        Check.due("it stays", x.said(0), 0);
        Check.due("a FAULT at 200", Check.sentenceOf(x, "not over" + Check.repeat(" ", 193)), -201);
        Check.due("it stays", x.said(0), 0);
        CampAshes y = Check.camp(CAMP);
        Check.sentenceOf(y, "over or");
        Check.due("none behind a FAULT alone", y.said(-1), -1);
    }

    private static void of(CampAshes x, String text, int bits) {
        Check.due("sentence " + text, Check.sentenceOf(x, text) > 0, true);
        int seen = 0;
        for (int k = 0; k < x.said(-1); k++) {
            seen |= 1 << x.said(k);
        }
        Check.due("of whom: " + text, seen, bits);
    }

    private static void sentenceWords() {
        CampAshes x = Check.camp("boy a 9;boy b 40;boy c 5;event e a joy 9;event f b joy 3;event g c joy 6;");
        Check.of("'hushed' (he told or lied today)");
        of(x, "hushed", 0);
        x.tell(0, 0);
        of(x, "hushed", 1);
        x.lie(1, 1);
        of(x, "hushed", 3);
        x.days(1);
        of(x, "hushed", 0);
        Check.of("'light' (he has nothing on him)");
        of(x, "light", 0);
        x.give(0, 0, 1, 3);
        of(x, "light", 0);
        x.give(0, 0, 1, 1);
        of(x, "light", 1);
        Check.of("'has' EVENT (some of it is on him)");
        of(x, "has e", 2);
        of(x, "has f", 2);
        Check.of("'his' EVENT (it was told as his)");
        of(x, "his e", 1);
        of(x, "his g", 4);
        CampAshes y = Check.camp("boy a 9;boy b 40;event e b joy 2;event f a joy 3;");
        of(y, "his e", 2);
        of(y, "his f", 1);
        Check.of("'has' EVENT (some of it is on him)");
        y.give(1, 0, 0, 1);
        of(y, "has e", 3);
        y.give(1, 0, 0, 1);
        of(y, "has e", 1);
        Check.of("( 'load' | 'bears' | 'tears' | 'number' ) SIGN NUMBER");
        of(x, "over", 4);
        of(x, "tears > 0", 4);
        of(x, "tears = 1", 4);
        of(x, "tears < 1", 3);
        of(x, "load = 9", 2);
        of(x, "load > 9", 0);
        of(x, "load < 9", 5);
        of(x, "bears > 8", 3);
        of(x, "number < 1", 1);
        of(x, "number = 2", 4);
        of(x, "number > 2", 0);
        Check.of("COND: ALL { 'or' ALL }. ALL: ONE { 'and' ONE }.");
        of(x, "number = 0 or number = 1 and number = 2", 1);
        of(x, "number = 2 and number = 1 or number = 0", 1);
        of(x, "(number = 0 or number = 1) and number = 1", 2);
        of(x, "not number = 0 and not number = 1", 4);
        of(x, "not (number = 0 and not number = 1)", 6);
        of(x, "number = 0 or number = 1 or number = 2", 7);
        of(x, "number < 2 and number > 0 and number = 1", 2);
    }

    private static void said() {
        Check.of("BOYS of whom it may be said: how many (k NONE), or the k-th. NONE: there is no SENTENCE, none such.");
        CampAshes x = Check.camp("boy a 9;boy b 9;boy c 9;boy d 9;boy e 9;boy f 9;boy g 9;");
        int[] odd = {Integer.MIN_VALUE, -2, 7, Integer.MAX_VALUE};
        for (int k = -1; k < 7; k++) {
            Check.due("no SENTENCE, " + k, x.said(k), -1);
        }
        Check.sentenceOf(x, "light");
        Check.due("all", x.said(-1), 7);
        for (int k = 0; k < 7; k++) {
            Check.due("the one at " + k, x.said(k), k);
        }
        for (int k : odd) {
            Check.due("none such, " + k, x.said(k), -1);
        }
        Check.sentenceOf(x, "number = 6 or number = 3");
        Check.due("two", x.said(-1), 2);
        Check.due("the first", x.said(0), 3);
        Check.due("the second", x.said(1), 6);
        Check.due("no third", x.said(2), -1);
        Check.sentenceOf(x, "over");
        Check.due("of nobody", x.said(-1), 0);
        Check.due("nobody", x.said(0), -1);
        Check.of("It is said of BOYS.");
        CampAshes none = new CampAshes();
        Check.sentenceOf(none, "not over");
        Check.due("there are none", none.said(-1), 0);
        Check.due("nobody", none.said(0), -1);
    }

    private static void image() {
        Check.of("CAMP, all that is so and the SENTENCE are kept in place k (0, 1): true; false: no such one.");
        CampAshes x = Check.camp(CAMP);
        for (int k : new int[] {Integer.MIN_VALUE, -1, 2, Integer.MAX_VALUE}) {
            Check.due("image(" + k + ")", x.image(k), false);
        }
        Check.due("nothing is kept in 0", x.restore(0), false);
        Check.due("nor in 1", x.restore(1), false);
        Check.sentenceOf(x, "hushed");
        x.tell(0, 0);
        x.log();
        x.days(1);
        x.lie(1, 1);
        String first = Look.world(x);
        Check.due("image(0)", x.image(0), true);
        Check.campOf(x, "boy z 3;event y z joy 9;takes joy 7;turf 8;wet 2;");
        Check.sentenceOf(x, "over or light");
        String second = Look.world(x);
        Check.due("image(1)", x.image(1), true);
        for (int i = 0; i < 2; i++) {
            Check.due("restore(0)", x.restore(0), true);
            Check.due("as kept in 0", Look.world(x), first);
            Check.due("a name of it", Check.sentenceOf(x, "has dark"), 1);
            Check.due("restore(1)", x.restore(1), true);
            Check.due("as kept in 1", Look.world(x), second);
            Check.due("no name of the other", Check.sentenceOf(x, "has dark"), -1 - 4);
            x.days(3);
        }
        x.restore(1);
        x.image(0);
        x.restore(0);
        Check.due("kept anew", Look.world(x), second);
    }

    private static void restore() {
        Check.of("They are as kept in place k (the tape, and what other calls told last, stays; nothing can be undone): true; "
            + "false: no such one, or nothing is kept there.");
        CampAshes x = Check.camp(CAMP);
        x.image(0);
        x.tell(0, 0);
        x.best();
        x.spread();
        x.says(1, 6);
        Check.lawsOf(x, 10, 5, 0);
        x.tag(1);
        Check.bookOf(x, "day 2;rake;rake;", 0);
        Check.campOf(x, "wet 1;");
        Check.type(x, "over");
        String told = Look.latest(x);
        for (int k : new int[] {Integer.MIN_VALUE, -1, 1, 2, Integer.MAX_VALUE}) {
            String before = Look.world(x);
            Check.due("restore(" + k + ")", x.restore(k), false);
            Check.due("all stays", Look.world(x), before);
        }
        Check.due("what can be undone stays, too", x.undo(), 0);
        x.log();
        Check.due("restore(0)", x.restore(0), true);
        Check.due("what was told last", Look.latest(x), told);
        Check.due("the fault", x.fault(), 2);
        Check.due("the tape", x.count(4), 4);
        Check.due("nothing can be undone", x.undo(), -1);
        Check.due("its text", x.sentence(), 1);
        x.log();
        Check.due("what is done from then on can be", x.undo(), 0);
    }

    private static void count() {
        Check.of("4 bytes of the tape. NONE for another what.");
        CampAshes x = Check.camp("boy a 1;boy b 2;boy c 3;event d a joy 1;event e a joy 2;turf 7;wet 30;");
        int[] due = {3, 2, 7, 30, 0};
        for (int what = 0; what < 5; what++) {
            Check.due("count(" + what + ")", x.count(what), due[what]);
        }
        x.feed(0, 0, 0, 0, 0);
        Check.due("20 bytes", x.count(4), 20);
        for (int what : new int[] {Integer.MIN_VALUE, -1, 5, Integer.MAX_VALUE}) {
            Check.due("count(" + what + ")", x.count(what), -1);
        }
        Check.of("3 'wet' (0: none)");
        Check.due("none", Check.camp("boy a 1;").count(3), 0);
    }

    private static void aFullCamp() {
        Check.of("7 BOYS, 10 EVENTS at most, numbered from 0 each.");
        StringBuilder text = new StringBuilder();
        for (int b = 0; b < 7; b++) {
            text.append("boy b").append((char) ('a' + b)).append(' ').append(b < 6 ? 9 : 60).append(';');
        }
        for (int e = 0; e < 10; e++) {
            text.append("event e").append((char) ('a' + e)).append(" b").append((char) ('a' + e % 7)).append(" joy 10;");
        }
        CampAshes x = Check.camp(text + "fire 30;logs 20;turf 9;");
        Check.due("all loads", x.now(7), 100);
        Check.due("who is over", x.now(4), 63);
        Check.due("spread", x.spread(), 11 * 3 + 3);
        Check.due("the last gets all", x.spreadOf(6), 36);
        Check.due("tents", x.tents(20), 5);
        Check.due("best", x.best(), 9 + 5 * 8 + 7);
        Check.due("the last in the row", x.bestAt(6), 6);
        Check.due("says of the last", x.says(6, 10), 1);
        Check.due("the last event of which some is his", x.saying(), 64);
        Check.due("calm of the last", x.calm(6), 0);
        Check.due("calm of the last but one", x.calm(5), 1);
        Check.due("a sentence", Check.sentenceOf(x, "has ej and his ej or number = 6"), 3);
        Check.due("of whom", x.said(0) * 10 + x.said(1), 26);
        Check.due("a gift", x.give(2, 9, 6, 10), 0);
        Check.due("it is on the last", x.on(9, 6), 10);
        Check.due("his bits", x.boy(6, 5), 576);
        Check.due("left of it", x.event(9, 3), 10);
        Check.due("the last tells the last", x.tell(6, 9), 0);
        Check.due("taken", x.ashes(3), 9);
        Check.due("a day", x.days(1), 1);
        Check.due("wept", x.boy(5, 4), 1);
        Check.due("the last did not", x.boy(6, 4), 0);
        Check.due("a book", Check.bookOf(x, "bg lies ej;bg gives ej bf 1;", 1), 1);
        Check.due("why", x.told(0), 23);
        Check.due("who is over then", x.told(3), 63);
        Check.due("drawn", x.drawn(20, 5), 20);
        int fine = 1 - x.boy(6, 2);
        Check.due("undone", x.undo(), 4);
        Check.due("odds of the last", x.odds(6, 1, 5), fine);
        Check.due("tag", Check.tagOf(x, 6), "bg bears 13 of 60");
        x.image(1);
        Check.due("restore", x.restore(1), true);
        Check.due("his load", x.boy(6, 0), 13);
    }

    private static void the512thCall() {
        Check.of("An object is used for at most 512 calls after it has been made");
        CampAshes x = new CampAshes();
        for (int call = 1; call < 512; call++) {
            x.count(0);
        }
        Check.due("the 512th", x.days(60), 60);
    }

    /** Something of each sort has been told; one act, a LOG, can be undone; 'wet 2' makes DAY 1 WET. */
    private static CampAshes busy(String more) {
        CampAshes x = Check.camp("boy a 9;boy b 9;event e a joy 14;event f b fear 9;wet 2;turf 0;" + more);
        Check.sentenceOf(x, "over");
        x.best();
        x.tell(0, 0);
        x.spread();
        x.undo();
        x.says(0, 14);
        Check.lawsOf(x, 10, 5, 0);
        x.tag(0);
        Check.bookOf(x, "a tells e;rake;rake;", 0);
        Check.campOf(x, "wet 99;");
        return x;
    }

    private static void refused(String call, CampAshes x, int due, ToIntFunction<CampAshes> made) {
        x.log();
        Check.type(x, "zz");
        String before = Look.all(x);
        Check.due(call, made.applyAsInt(x), due);
        Check.due("all stays behind " + call, Look.all(x), before);
        Check.due("the LOG alone can be undone behind " + call, x.undo(), 0);
        Check.due("and it is", x.undo(), -1);
    }

    private static CampAshes on(CampAshes x, int day) {
        Check.pass(x, day);
        x.image(0);
        x.restore(0);
        return x;
    }

    private static CampAshes told(CampAshes x) {
        x.tell(0, 0);
        x.image(0);
        x.restore(0);
        return x;
    }

    private static void refusedCalls() {
        Check.of("0, or why not");
        refused("tell 1", busy(""), 1, x -> x.tell(0, 1));
        refused("tell 2", on(busy(""), 1), 2, x -> x.tell(0, 0));
        refused("tell 4", told(busy("")), 4, x -> x.tell(0, 0));
        refused("lie 1", busy(""), 1, x -> x.lie(0, 1));
        refused("lie 2", on(busy(""), 1), 2, x -> x.lie(0, 0));
        refused("lie 4", told(busy("")), 4, x -> x.lie(0, 0));
        refused("give 1", busy(""), 1, x -> x.give(0, 0, 0, 1));
        refused("give 2", busy(""), 2, x -> x.give(0, 0, 1, 15));
        refused("give 3", busy(""), 3, x -> x.give(0, 0, 1, 1));
        refused("log 1", busy("logs 1;"), 1, x -> x.log());
        refused("log 2", busy("fire 29;"), 2, x -> x.log());
        refused("rake 1", busy(""), 1, x -> x.rake());
        refused("days 0", on(busy(""), 400), 0, x -> x.days(1));
        refused("drawn 0", on(busy(""), 400), 0, x -> x.drawn(1, 0));
        Check.of("NONE: no such ones.");
        refused("tell NONE", busy(""), -1, x -> x.tell(2, 0));
        refused("lie NONE", busy(""), -1, x -> x.lie(0, 2));
        refused("give NONE", busy(""), -1, x -> x.give(0, 0, 2, 1));
        refused("days NONE", busy(""), -1, x -> x.days(61));
        refused("drawn NONE", busy(""), -1, x -> x.drawn(0, 0));
        refused("odds NONE", busy(""), -1, x -> x.odds(0, 31, 0));
        refused("says NONE", busy(""), -1, x -> x.says(0, 3));
        refused("tents NONE", busy(""), -1, x -> x.tents(13));
        refused("calm NONE", busy(""), -1, x -> x.calm(2));
        refused("tag NONE", busy(""), -1, x -> x.tag(2));
        refused("spread NONE", busy(""), -1, x -> x.spread());
        refused("book -1000", busy(""), -1000, x -> x.book(2));
        refused("image false", busy(""), 0, x -> x.image(2) ? 1 : 0);
        refused("restore false", busy(""), 0, x -> x.restore(1) ? 1 : 0);
        refused("end false", busy(""), 0, x -> x.end(3) ? 1 : 0);
        refused("boy throws", busy(""), 1, x -> Check.boyThrows(x, 2, 0) ? 1 : 0);
        CampAshes cold = busy("fire 1;");
        cold.tell(0, 0);
        Check.type(cold, "zz");
        String before = Look.all(cold);
        Check.due("tell 3", cold.tell(1, 1), 3);
        Check.due("lie 3", cold.lie(1, 1), 3);
        Check.due("all stays at a HEAT of 0", Look.all(cold), before);
        Check.due("the telling alone can be undone", cold.undo(), 0);
    }
}
