/** Part 2 and promises 6 to 18: each sentence that names an edge of what is so and of what is done. */
public final class ActEdgesTest {
    public static void main(String[] args) {
        over();
        wet();
        aFifth();
        whyNotTell();
        whyNotLie();
        whatIsOnHimAtMost();
        heatIsOneLess();
        lies();
        gifts();
        logs();
        raking();
        aDay();
        days();
        boy();
        noSuchOnes();
        now();
        numbersOfActs();
        undoneActs();
        eightAreKept();
        whatIsNotUndone();
        Check.close();
    }

    private static void over() {
        Check.of("he is OVER, if that is more than he BEARS");
        CampAshes x = Check.camp("boy a 9;boy b 9;boy c 9;boy d 1;event e a joy 8;event f b joy 9;event g c joy 10;");
        int[] due = {0, 0, 1, 0};
        for (int b = 0; b < 4; b++) {
            Check.due("boy(" + b + ", 2)", x.boy(b, 2), due[b]);
        }
        Check.due("now(4)", x.now(4), 4);
        x.days(1);
        for (int b = 0; b < 4; b++) {
            Check.due("wept", x.boy(b, 4), due[b]);
        }
        Check.of("Of each EVENT so much is on each BOY; his LOAD is all that is on him");
        CampAshes y = Check.camp("boy a 9;boy b 60;event e a joy 4;event f a fear 5;event g b joy 7;");
        Check.due("just what he bears", y.boy(0, 2), 0);
        Check.due("his load", y.boy(0, 0), 9);
        y.give(0, 0, 1, 3);
        Check.due("what another holds is not his", y.boy(0, 0), 6);
        Check.due("it is the other's", y.boy(1, 0), 10);
    }

    private static void wet() {
        Check.of("A DAY whose number and 1 is divided by 'wet' is WET.");
        for (int wet : new int[] {2, 3, 7, 29, 30}) {
            CampAshes x = Check.camp("wet " + wet + ";");
            for (int day = 0; day < 95; day++) {
                Check.due("wet " + wet + ", day " + day, x.now(3), (day + 1) % wet == 0 ? 1 : 0);
                x.days(1);
            }
        }
        CampAshes dry = Check.camp("boy a 1;");
        for (int day = 0; day < 95; day++) {
            Check.due("none without, day " + day, dry.now(3), 0);
            dry.days(1);
        }
        CampAshes late = Check.camp("wet 25;");
        Check.pass(late, 399);
        Check.due("day 399 is the 400th", late.now(3), 1);
        late.days(1);
        Check.due("400", late.now(3), 0);
    }

    private static void aFifth() {
        Check.of("The fire would TAKE of a KIND: what 'takes' tells, and a fifth (cut) of its HEAT.");
        int[] fifths = {0, 0, 0, 0, 0, 1, 1, 1, 1, 1, 2, 2, 2, 2, 2, 3, 3, 3, 3, 3, 4, 4, 4, 4, 4, 5, 5, 5, 5, 5, 6};
        for (int heat = 0; heat <= 30; heat++) {
            CampAshes x = Check.camp("boy a 1;event b a joy 40;takes joy 9;takes fear 0;fire " + heat + ";");
            Check.due("takes(3) at " + heat, x.takes(3), 9 + fifths[heat]);
            Check.due("takes(0) at " + heat, x.takes(0), fifths[heat]);
            Check.due("takes(1) at " + heat, x.takes(1), 3 + fifths[heat]);
            if (heat > 0) {
                x.tell(0, 0);
                Check.due("taken at " + heat, x.ashes(3), 9 + fifths[heat]);
            }
        }
        Check.of("What the fire would TAKE of a KIND now (HEAT 0 or WET, too)");
        CampAshes x = Check.camp("takes grief 4;fire 12;turf 0;wet 2;");
        Check.due("dry", x.takes(2), 6);
        x.days(1);
        Check.due("it is wet", x.now(3), 1);
        Check.due("wet", x.takes(2), 5);
        Check.pass(x, 3);
        Check.due("it is out", x.now(1), 0);
        Check.due("out", x.takes(2), 4);
    }

    /** Two boys; b has nothing of e; the fire goes out by what a tells; each second DAY is WET. */
    private static CampAshes two(int fire) {
        return Check.camp("boy a 9;boy b 9;event e a joy 30;event f b joy 30;wet 2;turf 0;fire " + fire + ";");
    }

    private static void whyNotTell() {
        Check.of("To TELL an EVENT: why not, the least: 1 nothing of it is on him; 2 it is WET; 3 the HEAT is 0; 4 he is HUSHED");
        CampAshes x = two(9);
        Check.due("nothing", x.tell(0, 1), 1);
        Check.due("he can", x.tell(0, 0), 0);
        Check.due("hushed", x.tell(0, 0), 4);
        Check.due("nothing, hushed", x.tell(0, 1), 1);
        Check.due("another can", x.tell(1, 1), 0);
        x.days(1);
        Check.due("wet", x.tell(0, 0), 2);
        Check.due("nothing, wet", x.tell(0, 1), 1);
        CampAshes one = two(1);
        Check.due("at a HEAT of 1", one.tell(0, 0), 0);
        Check.due("out", one.tell(1, 1), 3);
        Check.due("out, hushed", one.tell(0, 0), 3);
        Check.due("nothing, out, hushed", one.tell(0, 1), 1);
        Check.due("nothing, out", one.tell(1, 0), 1);
        one.days(1);
        Check.due("wet, out", one.tell(0, 0), 2);
        Check.due("nothing, wet, out", one.tell(0, 1), 1);
        CampAshes last = Check.camp("boy a 9;event e a joy 5;turf 9;");
        Check.due("all of it", last.tell(0, 0), 0);
        last.days(1);
        Check.due("nothing is left", last.tell(0, 0), 1);
        Check.due("nor to lie about", last.lie(0, 0), 1);
    }

    private static void whyNotLie() {
        Check.of("To LIE about it: likewise");
        CampAshes x = two(9);
        Check.due("nothing", x.lie(0, 1), 1);
        Check.due("he can", x.lie(0, 0), 0);
        Check.due("hushed", x.lie(0, 0), 4);
        Check.due("hushed for telling, too", x.tell(0, 0), 4);
        Check.due("nothing, hushed", x.lie(0, 1), 1);
        Check.due("another tells", x.tell(1, 1), 0);
        Check.due("who told is hushed for lying", x.lie(1, 1), 4);
        x.days(1);
        Check.due("wet", x.lie(0, 0), 2);
        Check.due("nothing, wet", x.lie(0, 1), 1);
        CampAshes one = two(1);
        Check.due("at a HEAT of 1", one.lie(0, 0), 0);
        Check.due("out", one.lie(1, 1), 3);
        Check.due("out, hushed", one.lie(0, 0), 3);
        Check.due("nothing, out", one.lie(1, 0), 1);
        one.days(1);
        Check.due("wet, out", one.lie(0, 0), 2);
        Check.due("nothing, wet, out", one.lie(0, 1), 1);
    }

    private static void whatIsOnHimAtMost() {
        Check.of("so much as the fire would TAKE goes off him (what is on him at most) into the ashes of that KIND");
        String[] kinds = {"fear", "shame", "grief", "joy"};
        for (int kind = 0; kind < 4; kind++) {
            for (int weight = 1; weight <= 8; weight++) {
                CampAshes x = Check.camp("boy a 9;event e a " + kinds[kind] + " " + weight + ";fire 10;");
                x.tell(0, 0);
                int gone = weight < 5 ? weight : 5;
                Check.due("on him", x.on(0, 0), weight - gone);
                Check.due("his load", x.boy(0, 0), weight - gone);
                Check.due("left on all", x.event(0, 3), weight - gone);
                for (int other = 0; other < 4; other++) {
                    Check.due("ashes(" + other + ")", x.ashes(other), other == kind ? gone : 0);
                }
            }
        }
        CampAshes none = Check.camp("boy a 9;event e a joy 3;takes joy 0;fire 4;");
        Check.due("a telling of which nothing is taken is one", none.tell(0, 0), 0);
        Check.due("all is on him", none.on(0, 0), 3);
        Check.due("he is hushed", none.boy(0, 3), 1);
        Check.due("the heat", none.now(1), 3);
        Check.due("there are no ashes", none.rake(), 1);
    }

    private static void heatIsOneLess() {
        Check.of("the HEAT is 1 less; he is HUSHED");
        CampAshes x = Check.camp("boy a 9;boy b 9;boy c 9;event e a joy 9;event f b joy 9;event g c joy 9;fire 2;");
        Check.due("a tells", x.tell(0, 0), 0);
        Check.due("heat", x.now(1), 1);
        Check.due("he alone", x.now(5), 1);
        Check.due("c lies", x.lie(2, 2), 0);
        Check.due("heat", x.now(1), 0);
        Check.due("both", x.now(5), 5);
        Check.due("boy(1, 3)", x.boy(1, 3), 0);
        Check.due("boy(2, 3)", x.boy(2, 3), 1);
    }

    private static void lies() {
        Check.of("there is 2 more of it on him (99 at most), the fire burns green once more");
        for (int weight : new int[] {39, 40}) {
            CampAshes x = Check.camp("boy a 60;event e a joy " + weight + ";event f a joy 7;fire 30;turf 9;");
            int on = weight;
            for (int i = 1; i <= 33; i++) {
                Check.due("a lie", x.lie(0, 0), 0);
                on = on >= 97 ? 99 : on + 2;
                Check.due("on him", x.on(0, 0), on);
                Check.due("his load", x.boy(0, 0), on + 7);
                Check.due("green", x.now(6), i);
                x.days(1);
            }
            Check.due("the other stays", x.on(1, 0), 7);
            Check.due("no ashes", x.ashes(3), 0);
            Check.due("what it weighed", x.event(0, 2), weight);
            Check.due("what is left", x.event(0, 3), 99);
        }
        CampAshes both = Check.camp("boy a 60;boy b 60;event e a joy 40;fire 30;turf 9;");
        both.give(0, 0, 1, 40);
        both.lie(1, 0);
        Check.due("a lie about what one holds for another", both.on(0, 1), 42);
        Check.due("nothing is on the first", both.on(0, 0), 0);
    }

    private static void gifts() {
        Check.of("To GIVE n of an EVENT to a BOY: 1 they are alike; 2 less than n of it is on him; 3 the other one would be OVER");
        CampAshes x = Check.camp("boy a 60;boy b 20;boy c 1;event e a joy 14;event f b joy 7;event g c joy 2;");
        Check.due("alike", x.give(0, 0, 0, 1), 1);
        Check.due("alike, less", x.give(0, 0, 0, 15), 1);
        Check.due("alike, over", x.give(2, 2, 2, 2), 1);
        Check.due("less by one", x.give(0, 0, 1, 15), 2);
        Check.due("less, over", x.give(0, 0, 2, 15), 2);
        Check.due("nothing of it", x.give(1, 0, 0, 1), 2);
        Check.due("over by one", x.give(0, 0, 1, 14), 3);
        Check.due("who is over already", x.give(0, 0, 2, 1), 3);
        Check.due("just what he bears", x.give(0, 0, 1, 13), 0);
        Check.due("his load", x.boy(1, 0), 20);
        Check.due("what is left on the other", x.on(0, 0), 1);
        Check.due("one more", x.give(0, 0, 1, 1), 3);
        Check.due("back again, all", x.give(1, 0, 0, 13), 0);
        Check.due("it adds up", x.on(0, 0), 14);
        Check.due("nothing more to give", x.give(1, 0, 0, 1), 2);
        Check.due("who is over gives", x.give(2, 2, 0, 2), 0);
        Check.due("he has nothing on him", x.boy(2, 5), 0);
        Check.of("it goes from him to that one");
        Check.due("nobody is hushed", x.now(5), 0);
        Check.due("the heat stays", x.now(1), 10);
        Check.due("all loads stay", x.now(7), 23);
        CampAshes most = Check.camp("boy a 1;boy b 40;boy c 39;event e a joy 40;wet 2;fire 0;turf 0;");
        most.days(1);
        Check.due("40 are too many for 39, at wet and out", most.give(0, 0, 2, 40), 3);
        Check.due("40 for 40, at wet and out", most.give(0, 0, 1, 40), 0);
        Check.due("on him", most.on(0, 1), 40);
    }

    private static void logs() {
        Check.of("To put on a LOG: 1 there is none; 2 the HEAT is 30: a LOG less, the HEAT 4 more (30 at most).");
        for (int heat = 0; heat <= 30; heat++) {
            CampAshes x = Check.camp("logs 1;fire " + heat + ";");
            Check.due("log() at " + heat, x.log(), heat == 30 ? 2 : 0);
            Check.due("the heat behind " + heat, x.now(1), heat > 26 ? 30 : heat + 4);
            Check.due("logs behind " + heat, x.now(2), heat == 30 ? 1 : 0);
            CampAshes y = Check.camp("logs 0;fire " + heat + ";");
            Check.due("none, at " + heat, y.log(), 1);
            Check.due("it stays", y.now(1), heat);
            Check.due("there is none still", y.now(2), 0);
        }
        CampAshes x = Check.camp("logs 20;fire 0;turf 0;");
        for (int i = 20; i > 0; i--) {
            Check.due("logs", x.now(2), i);
            Check.due("log", x.log(), 0);
            x.days(1);
        }
        Check.due("the last is gone", x.log(), 1);
    }

    private static void raking() {
        Check.of("To RAKE: 1 there are no ashes: there are none any more.");
        String[] kinds = {"fear", "shame", "grief", "joy"};
        for (int kind = 0; kind < 4; kind++) {
            CampAshes x = Check.camp("boy a 9;event e a " + kinds[kind] + " 1;");
            Check.due("none", x.rake(), 1);
            x.tell(0, 0);
            Check.due("one of " + kinds[kind], x.ashes(kind), 1);
            Check.due("rake", x.rake(), 0);
            Check.due("none any more", x.ashes(kind), 0);
            Check.due("rake again", x.rake(), 1);
        }
        CampAshes all = Check.camp("boy a 9;boy b 9;boy c 9;boy d 9;event e a fear 9;event f b shame 9;event g c grief 9;"
            + "event h d joy 9;");
        for (int b = 0; b < 4; b++) {
            all.tell(b, b);
        }
        all.rake();
        for (int kind = 0; kind < 4; kind++) {
            Check.due("none of any", all.ashes(kind), 0);
        }
    }

    private static void aDay() {
        Check.of("the HEAT is half (cut), and 'turf' more (30 at most)");
        for (int heat = 0; heat <= 30; heat++) {
            for (int turf = 0; turf <= 9; turf += 3) {
                CampAshes x = Check.camp("fire " + heat + ";turf " + turf + ";");
                x.days(1);
                Check.due("heat " + heat + ", turf " + turf, x.now(1), (heat - (heat & 1)) / 2 + turf);
            }
        }
        Check.of("each BOY who is OVER has WEPT once more");
        CampAshes x = Check.camp("boy a 9;boy b 9;event e a joy 10;event f b joy 9;takes joy 0;fire 9;");
        x.days(3);
        Check.due("each day once", x.boy(0, 4), 3);
        Check.due("who bears it did not", x.boy(1, 4), 0);
        x.lie(1, 1);
        Check.due("not by day", x.boy(1, 4), 0);
        x.days(1);
        Check.due("by night", x.boy(1, 4), 1);
        Check.of("It is the next DAY, nobody is HUSHED.");
        Check.due("the day", x.now(0), 4);
        Check.due("hushed", x.now(5), 0);
        Check.due("he can speak again", x.lie(1, 1), 0);
    }

    private static void days() {
        Check.of("A DAY (0 to 399; 400: all are over) goes");
        CampAshes x = Check.camp("boy a 1;event e a joy 9;turf 2;");
        Check.due("the first", x.now(0), 0);
        Check.pass(x, 399);
        Check.due("the last", x.now(0), 399);
        Check.due("one is left", x.days(60), 1);
        Check.due("all are over", x.now(0), 400);
        Check.due("none goes", x.days(1), 0);
        Check.due("it stays", x.now(0), 400);
        Check.due("wept on each", x.boy(0, 4), 400);
        Check.due("acts can still be done", x.tell(0, 0), 0);
        Check.due("hushed", x.boy(0, 3), 1);
        Check.due("no day goes", x.days(60), 0);
        Check.due("still hushed", x.boy(0, 3), 1);
        Check.of("n (1 to 60) DAYS go by: how many did; NONE: not as told.");
        CampAshes y = Check.camp("");
        for (int n : new int[] {Integer.MIN_VALUE, -60, -1, 0, 61, 400, Integer.MAX_VALUE}) {
            Check.due("days(" + n + ")", y.days(n), -1);
        }
        Check.due("no day went", y.now(0), 0);
        Check.due("days(1)", y.days(1), 1);
        Check.due("days(60)", y.days(60), 60);
        Check.due("the day", y.now(0), 61);
        Check.pass(y, 280);
        Check.due("59 are left", y.days(60), 59);
        Check.due("not as told at the end, too", y.days(61), -1);
    }

    private static void boy() {
        Check.of("NoSuchElementException: no such ones.");
        CampAshes x = Check.camp("boy a 9;boy b 9;event e a joy 10;");
        String before = Look.all(x);
        for (int odd : new int[] {Integer.MIN_VALUE, -2, -1, 6, 7, 8, Integer.MAX_VALUE}) {
            Check.due("boy(0, " + odd + ") throws", Check.boyThrows(x, 0, odd), true);
            Check.due("boy(" + odd + ", 0) throws", Check.boyThrows(x, odd, 0), true);
        }
        Check.due("boy(2, 0) throws", Check.boyThrows(x, 2, 0), true);
        Check.due("boy(1, 0) is fine", Check.boyThrows(x, 1, 0), false);
        Check.due("boy(1, 5) is fine", Check.boyThrows(x, 1, 5), false);
        Check.of("A call that throws changes nothing.");
        Check.due("all", Look.all(x), before);
        Check.due("an empty CAMP has none", Check.boyThrows(new CampAshes(), 0, 0), true);
        Check.of("5 EVENTS of which some is on him, as bits");
        CampAshes y = Check.camp("boy a 9;boy b 9;event e a joy 1;event f b joy 2;event g a joy 3;");
        Check.due("two of three", y.boy(0, 5), 5);
        y.tell(0, 0);
        Check.due("nothing of e", y.boy(0, 5), 4);
        y.give(1, 1, 0, 1);
        Check.due("one of f", y.boy(0, 5), 6);
        Check.due("one of f is left", y.boy(1, 5), 2);
    }

    private static void noSuchOnes() {
        CampAshes x = Check.camp("boy a 9;boy b 8;event e a joy 10;event f b fear 3;event g a joy 2;");
        int[] odd = {Integer.MIN_VALUE, -1, 7, 10, Integer.MAX_VALUE};
        Check.of("How much of an EVENT is on a BOY; NONE: no such ones.");
        for (int n : odd) {
            Check.due("on(" + n + ", 0)", x.on(n, 0), -1);
            Check.due("on(0, " + n + ")", x.on(0, n), -1);
        }
        Check.due("on(3, 0)", x.on(3, 0), -1);
        Check.due("on(0, 2)", x.on(0, 2), -1);
        Check.due("on(2, 1)", x.on(2, 1), 0);
        Check.of("3 what is left of it on all. NONE: no such ones.");
        for (int n : odd) {
            Check.due("event(" + n + ", 0)", x.event(n, 0), -1);
            Check.due("event(0, " + n + ")", x.event(0, n), -1);
        }
        Check.due("event(3, 0)", x.event(3, 0), -1);
        Check.due("event(2, 4)", x.event(2, 4), -1);
        Check.due("event(2, 3)", x.event(2, 3), 2);
        int[] noKinds = {Integer.MIN_VALUE, -1, 4, Integer.MAX_VALUE};
        Check.of("What the fire would TAKE of a KIND now (HEAT 0 or WET, too); NONE: no such one.");
        for (int n : noKinds) {
            Check.due("takes(" + n + ")", x.takes(n), -1);
        }
        Check.of("Ashes of a KIND; NONE: no such one.");
        for (int n : noKinds) {
            Check.due("ashes(" + n + ")", x.ashes(n), -1);
        }
        Check.of("A BOY TELLS an EVENT: 0, or why not; NONE: no such ones.");
        String before = Look.world(x);
        for (int n : odd) {
            Check.due("tell(" + n + ", 0)", x.tell(n, 0), -1);
            Check.due("tell(0, " + n + ")", x.tell(0, n), -1);
        }
        Check.due("tell(2, 0)", x.tell(2, 0), -1);
        Check.due("tell(0, 3)", x.tell(0, 3), -1);
        Check.of("He LIES about it: 0, or why not; NONE: no such ones.");
        for (int n : odd) {
            Check.due("lie(" + n + ", 0)", x.lie(n, 0), -1);
            Check.due("lie(0, " + n + ")", x.lie(0, n), -1);
        }
        Check.due("lie(2, 0)", x.lie(2, 0), -1);
        Check.due("lie(0, 3)", x.lie(0, 3), -1);
        Check.due("all stays", Look.world(x), before);
        Check.due("nothing to undo", x.undo(), -1);
    }

    private static void now() {
        Check.of("7 all LOADS. NONE for another what.");
        CampAshes x = Check.camp("boy a 9;boy b 8;event e a joy 10;event f b fear 3;");
        for (int n : new int[] {Integer.MIN_VALUE, -1, 8, Integer.MAX_VALUE}) {
            Check.due("now(" + n + ")", x.now(n), -1);
        }
        Check.due("all", x.now(7), 13);
        CampAshes seven = Check.camp("boy a 1;boy b 1;boy c 1;boy d 1;boy e 1;boy f 1;boy g 1;event h g joy 2;event i a joy 2;");
        Check.of("4 who is OVER, 5 HUSHED, as bits each");
        Check.due("the first and the last", seven.now(4), 65);
        seven.tell(6, 0);
        Check.due("the last", seven.now(5), 64);
    }

    private static void numbersOfActs() {
        Check.of("He GIVES n (1 to 40) of it to a BOY: 0, or why not; NONE: no such ones.");
        CampAshes x = Check.camp("boy a 9;boy b 60;event e a joy 40;event f b fear 3;");
        String before = Look.world(x);
        for (int n : new int[] {Integer.MIN_VALUE, -1, 0, 41, Integer.MAX_VALUE}) {
            Check.due("give n " + n, x.give(0, 0, 1, n), -1);
            Check.due("give n " + n + ", alike", x.give(0, 0, 0, n), -1);
        }
        for (int odd : new int[] {Integer.MIN_VALUE, -1, 2, 7, 10, Integer.MAX_VALUE}) {
            Check.due("give b " + odd, x.give(odd, 0, 1, 1), -1);
            Check.due("give e " + odd, x.give(0, odd, 1, 1), -1);
            Check.due("give c " + odd, x.give(0, 0, odd, 1), -1);
            Check.due("give b and c " + odd, x.give(odd, 0, odd, 1), -1);
        }
        Check.due("all stays", Look.world(x), before);
        Check.due("nothing to undo", x.undo(), -1);
        Check.due("n 1", x.give(0, 0, 1, 1), 0);
        Check.due("n 40 is as told", x.give(0, 0, 1, 40), 2);
        x.undo();
        Check.due("n 40", x.give(0, 0, 1, 40), 0);
    }

    /** An act, told by its number: each that can be done behind the ones ahead of it. */
    private static int act(CampAshes x, int which) {
        switch (which) {
            case 0: return x.tell(0, 0);
            case 1: return x.lie(1, 1);
            case 2: return x.give(0, 2, 1, 5);
            case 3: return x.log();
            case 4: return x.rake();
            case 5: return x.days(2) - 2;
            case 6: return x.drawn(1, 5) - 1;
            default: return Check.bookOf(x, "day 1;log;day 60;day 60;", 1) + 1;
        }
    }

    private static CampAshes camp() {
        return Check.camp("boy abe 10;boy ben 20;boy cy 8;event dark abe fear 14;event oath ben shame 6;event dog abe grief 5;"
            + "event kite cy joy 9;takes fear 4;takes joy 0;fire 11;logs 5;turf 2;wet 4;");
    }

    private static void undoneActs() {
        Check.of("The latest of tell(), lie(), give(), log(), rake() that was done, days() above 0, drawn() above 0, a BOOK of which "
            + "some LINE was lived is undone");
        CampAshes x = camp();
        String[] ahead = new String[8];
        for (int i = 0; i < 8; i++) {
            ahead[i] = Look.world(x);
            Check.due("act " + i + " was done", act(x, i), 0);
            Check.due("act " + i + " changed something", Look.world(x).equals(ahead[i]), false);
        }
        for (int i = 7; i >= 0; i--) {
            Check.due("how many more", x.undo(), i);
            Check.due("all is as ahead of act " + i, Look.world(x), ahead[i]);
        }
        Check.of("NONE: none is.");
        Check.due("no more", x.undo(), -1);
        Check.due("all is as in the beginning", Look.world(x), ahead[0]);
        Check.due("an undone act is not done again by undo()", x.undo(), -1);
        Check.due("a new object", new CampAshes().undo(), -1);
    }

    private static void eightAreKept() {
        Check.of("how many more can be (8 at most are kept)");
        for (int acts = 1; acts <= 20; acts++) {
            CampAshes x = Check.camp("");
            for (int i = 0; i < acts; i++) {
                x.days(1);
            }
            int kept = acts < 8 ? acts : 8;
            for (int i = 1; i <= kept; i++) {
                Check.due("undo " + i + " of " + acts, x.undo(), kept - i);
                Check.due("the day", x.now(0), acts - i);
            }
            Check.due("one more of " + acts, x.undo(), -1);
            Check.due("the day stays", x.now(0), acts - kept);
        }
        CampAshes x = Check.camp("");
        for (int i = 0; i < 12; i++) {
            x.days(1);
        }
        x.undo();
        x.undo();
        x.undo();
        x.days(10);
        Check.due("six of the eight", x.undo(), 5);
        Check.due("the day", x.now(0), 9);
        Check.due("and on", x.undo(), 4);
        Check.due("the day", x.now(0), 8);
    }

    private static void whatIsNotUndone() {
        Check.of("The latest of tell(), lie(), give(), log(), rake() that was done, days() above 0, drawn() above 0, a BOOK of which "
            + "some LINE was lived is undone");
        CampAshes x = Check.camp("boy a 9;boy b 9;event e a joy 30;event f b joy 3;logs 0;");
        x.tell(0, 1);
        x.lie(1, 0);
        x.give(0, 0, 1, 7);
        x.log();
        x.rake();
        x.days(0);
        x.drawn(61, 3);
        Check.bookOf(x, "rake;day 3;", 1);
        Check.bookOf(x, "", 1);
        Check.bookOf(x, "day 3;", 0);
        Check.bookOf(x, "day 3;day", 1);
        Check.due("none was done", x.undo(), -1);
        Check.pass(x, 399);
        x.days(1);
        x.days(1);
        x.drawn(3, 3);
        Check.due("those of no DAY are none", x.undo(), 7);
        Check.due("the last one was of one", x.now(0), 399);
        Check.bookOf(x, "day 1;day 1;", 1);
        Check.due("a BOOK lived in part", x.undo(), 7);
        Check.due("the day", x.now(0), 399);
    }
}
