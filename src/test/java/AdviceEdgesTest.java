/** Part 3 and promises 19 to 28: each sentence that names an edge of what is asked for. */
public final class AdviceEdgesTest {
    public static void main(String[] args) {
        whoCouldTell();
        theHeaviest();
        outByThen();
        asTold();
        likeRows();
        bestAt();
        spread();
        spreadOf();
        says();
        saying();
        tents();
        laws();
        lawNumbers();
        watch();
        watchOfTheLatest();
        calm();
        calmOnWetDays();
        calmAsLongAsThereIsHeat();
        calmByDay400();
        allStays();
        Check.close();
    }

    private static void row(CampAshes x, int... boys) {
        for (int k = 0; k < boys.length; k++) {
            Check.due("bestAt(" + k + ")", x.bestAt(k), boys[k]);
        }
        Check.due("bestAt(" + boys.length + ")", x.bestAt(boys.length), -1);
    }

    private static void whoCouldTell() {
        Check.of("BEST order now: all BOYS who could TELL");
        CampAshes x = Check.camp("boy a 9;boy b 9;boy c 9;boy d 9;event e a joy 9;event f c joy 9;event g d joy 9;fire 30;turf 9;wet 2;");
        Check.due("who has something on him", x.best(), 9 + 8 + 8);
        row(x, 0, 2, 3);
        x.lie(2, 1);
        Check.due("who is not hushed", x.best(), 8 + 8);
        row(x, 0, 3);
        x.tell(0, 0);
        x.tell(3, 2);
        Check.due("all are hushed", x.best(), 0);
        row(x);
        x.days(1);
        Check.due("wet", x.best(), 0);
        row(x);
        CampAshes out = Check.camp("boy a 9;event e a joy 9;fire 0;");
        Check.due("out", out.best(), 0);
        row(out);
        CampAshes nobody = new CampAshes();
        Check.due("nobody", nobody.best(), 0);
        row(nobody);
        CampAshes little = Check.camp("boy a 9;boy b 9;event e a joy 9;event f b joy 9;takes joy 0;fire 4;");
        Check.due("tellings of which nothing is taken", little.best(), 0);
        row(little, 0, 1);
    }

    private static void theHeaviest() {
        Check.of("each the EVENT of which most is on him (of like ones the first)");
        CampAshes first = Check.camp("boy a 9;event e a joy 9;event f a fear 9;takes joy 1;takes fear 9;fire 4;");
        Check.due("the first of two", first.best(), 1);
        CampAshes other = Check.camp("boy a 9;event e a fear 9;event f a joy 9;takes joy 1;takes fear 9;fire 4;");
        Check.due("the other way", other.best(), 9);
        CampAshes more = Check.camp("boy a 9;event e a fear 8;event f a joy 9;takes joy 1;takes fear 9;fire 4;");
        Check.due("more by one", more.best(), 1);
        CampAshes held = Check.camp("boy a 9;boy b 20;event e a fear 8;event f b joy 7;takes joy 1;takes fear 9;fire 4;");
        held.give(0, 0, 1, 8);
        Check.due("what one holds for another", held.best(), 8);
        row(held, 1);
    }

    private static void outByThen() {
        Check.of("so that the fire TAKES most in all (one to whom it is out by then tells nothing)");
        CampAshes one = Check.camp("boy a 9;boy b 9;boy c 9;event e a joy 1;event f b joy 2;event g c joy 9;fire 1;");
        Check.due("one alone", one.best(), 3);
        row(one, 2, 0, 1);
        CampAshes two = Check.camp("boy a 9;boy b 9;boy c 9;event e a joy 1;event f b joy 2;event g c joy 9;fire 2;");
        Check.due("two", two.best(), 5);
        row(two, 1, 2, 0);
        CampAshes three = Check.camp("boy a 9;boy b 9;boy c 9;event e a joy 1;event f b joy 2;event g c joy 9;fire 3;");
        Check.due("three", three.best(), 6);
        row(three, 0, 1, 2);
        // At 5 the fire takes one more: it should be of him who has it.
        CampAshes five = Check.camp("boy a 9;boy b 9;boy c 9;event e a joy 3;event f b joy 3;event g c joy 4;fire 5;");
        Check.due("at 5", five.best(), 10);
        row(five, 2, 0, 1);
        CampAshes six = Check.camp("boy a 9;boy b 9;boy c 9;event e a joy 3;event f b joy 3;event g c joy 4;fire 6;");
        Check.due("at 6 there are two such", six.best(), 10);
        row(six, 0, 2, 1);
    }

    /** Who tells in that row gives the fire just so much. */
    private static void asTold() {
        Check.of("BEST order: how much is TAKEN in all.");
        for (int fire = 1; fire <= 30; fire++) {
            CampAshes x = Check.camp("boy a 9;boy b 9;boy c 9;boy d 9;event e a joy 3;event f b fear 5;event g c joy 9;event h d grief 4;"
                + "event i a fear 2;event j c shame 9;takes joy 1;takes fear 4;takes grief 0;fire " + fire + ";");
            int due = x.best();
            for (int k = 0; k < 4; k++) {
                int b = x.bestAt(k);
                x.tell(b, b);
            }
            Check.due("at " + fire, x.ashes(0) + x.ashes(1) + x.ashes(2) + x.ashes(3), due);
        }
    }

    private static void likeRows() {
        Check.of("of like ones the first: BOY by BOY in that row the least");
        StringBuilder text = new StringBuilder();
        for (int b = 0; b < 7; b++) {
            text.append("boy ").append((char) ('a' + b)).append(" 9;");
        }
        for (int b = 0; b < 7; b++) {
            text.append("event e").append((char) ('a' + b)).append(' ').append((char) ('a' + b)).append(" joy 20;");
        }
        CampAshes x = Check.camp(text + "fire 30;");
        Check.due("seven alike", x.best(), 9 + 8 + 8 + 8 + 8 + 8 + 7);
        row(x, 0, 1, 2, 3, 4, 5, 6);
        CampAshes one = Check.camp(text + "fire 1;");
        Check.due("seven alike, one telling", one.best(), 3);
        row(one, 0, 1, 2, 3, 4, 5, 6);
        // The last two places take nothing more: they go by number, too.
        CampAshes y = Check.camp("boy a 9;boy b 9;boy c 9;boy d 9;event e a joy 1;event f b joy 9;event g c joy 1;event h d joy 9;fire 2;");
        Check.due("two of four", y.best(), 6);
        row(y, 1, 3, 0, 2);
    }

    private static void bestAt() {
        Check.of("The k-th BOY (from 0) by the latest best(); NONE: none such, or ahead of any.");
        CampAshes x = Check.camp("boy a 9;boy b 9;event e a joy 1;event f b joy 9;fire 1;");
        for (int k : new int[] {Integer.MIN_VALUE, -1, 0, 1, 6, 7, Integer.MAX_VALUE}) {
            Check.due("ahead of any, " + k, x.bestAt(k), -1);
        }
        x.best();
        row(x, 1, 0);
        for (int k : new int[] {Integer.MIN_VALUE, -1, 2, 6, 7, Integer.MAX_VALUE}) {
            Check.due("none such, " + k, x.bestAt(k), -1);
        }
        x.tell(1, 1);
        x.days(1);
        Check.campOf(x, "boy c 1;");
        row(x, 1, 0);
        x.best();
        row(x);
    }

    private static void gets(CampAshes x, int... amounts) {
        for (int b = 0; b < amounts.length; b++) {
            Check.due("spreadOf(" + b + ")", x.spreadOf(b), amounts[b]);
        }
        Check.due("spreadOf(" + amounts.length + ")", x.spreadOf(amounts.length), -1);
    }

    private static void spread() {
        Check.of("SPREAD: the least in all that must go from BOYS who are OVER to others so that nobody is OVER");
        CampAshes one = Check.camp("boy a 9;boy b 9;event e a joy 10;");
        Check.due("over by one", one.spread(), 1);
        gets(one, 0, 1);
        CampAshes just = Check.camp("boy a 9;boy b 9;event e a joy 9;event f b joy 9;");
        Check.due("nobody is over", just.spread(), 0);
        gets(just, 0, 0);
        Check.of("each other BOY, by number, gets as much as he can bear, as long as there is some");
        CampAshes x = Check.camp("boy a 3;boy b 9;boy c 4;boy d 5;boy e 7;event f b joy 15;event g c joy 4;event h a joy 1;event i d joy 2;");
        Check.due("in turn", x.spread(), 6);
        gets(x, 2, 0, 0, 3, 1);
        CampAshes two = Check.camp("boy a 1;boy b 9;boy c 1;boy d 5;event e a joy 3;event f c joy 4;");
        Check.due("of two who are over", two.spread(), 5);
        gets(two, 0, 5, 0, 0);
        Check.of("SPREAD: how much; NONE: others can not bear it.");
        CampAshes turn = Check.camp("boy a 9;boy b 4;boy c 4;event e a joy 12;event f b joy 1;");
        turn.spread();
        gets(turn, 0, 3, 0);
        turn.give(0, 0, 1, 3);
        turn.lie(1, 1);
        Check.due("who got some is over himself", turn.spread(), 2);
        gets(turn, 0, 0, 2);
        CampAshes full = Check.camp("boy a 9;boy b 3;boy c 2;event e a joy 14;");
        Check.due("just so much", full.spread(), 5);
        gets(full, 0, 3, 2);
        CampAshes more = Check.camp("boy a 9;boy b 3;boy c 2;event e a joy 15;");
        Check.due("one more", more.spread(), -1);
        Check.due("he is alone", Check.camp("boy a 9;event e a joy 10;").spread(), -1);
        Check.due("there is nobody", new CampAshes().spread(), 0);
    }

    private static void spreadOf() {
        Check.of("How much a BOY gets by the latest spread() that was not NONE (0: nothing); NONE: no such one, or ahead of any.");
        CampAshes x = Check.camp("boy a 9;boy b 3;event e a joy 13;");
        int[] all = {Integer.MIN_VALUE, -1, 0, 1, 2, 6, 7, Integer.MAX_VALUE};
        for (int b : all) {
            Check.due("ahead of any, " + b, x.spreadOf(b), -1);
        }
        Check.due("NONE", x.spread(), -1);
        for (int b : all) {
            Check.due("ahead of any that was not NONE, " + b, x.spreadOf(b), -1);
        }
        x.tell(0, 0);
        Check.due("0", x.spread(), 0);
        gets(x, 0, 0);
        x.undo();
        Check.due("NONE again", x.spread(), -1);
        gets(x, 0, 0);
        for (int b : new int[] {Integer.MIN_VALUE, -1, 2, 6, 7, Integer.MAX_VALUE}) {
            Check.due("no such one, " + b, x.spreadOf(b), -1);
        }
    }

    private static void says() {
        Check.of("SAYS of a BOY for n: the fewest EVENTS of which what is on him (above 0) makes just n; of like ones the least as bits.");
        CampAshes x = Check.camp("boy a 9;boy b 60;event c a joy 2;event d a joy 2;event e a joy 4;event f a joy 6;event g b joy 1;");
        Check.due("one", x.says(0, 4), 1);
        Check.due("rather than two that are less as bits", x.saying(), 4);
        Check.due("the first of like ones", x.says(0, 2), 1);
        Check.due("as bits", x.saying(), 1);
        Check.due("two", x.says(0, 8), 2);
        Check.due("c and f ahead of d and f", x.saying(), 9);
        Check.due("another's", x.says(0, 1), -1);
        Check.due("all", x.says(0, 14), 4);
        Check.due("all, as bits", x.saying(), 15);
        Check.due("one more than all", x.says(0, 15), -1);
        Check.due("one with nothing on him", Check.camp("boy a 9;").says(0, 1), -1);
        x.give(0, 0, 1, 1);
        Check.due("what is on him now", x.says(0, 1), 1);
        Check.due("as bits", x.saying(), 1);
        x.tell(1, 0);
        Check.due("nothing of c is on b now", x.says(1, 1), 1);
        Check.due("but of g", x.saying(), 16);
        Check.due("no two of them", x.says(1, 2), -1);
        Check.of("SAYS of a BOY for n (1 to 200): how many EVENTS; NONE: by none, not as told.");
        CampAshes y = Check.camp("boy a 9;event c a joy 40;event d a joy 40;event e a joy 40;event f a joy 40;event g a joy 40;event h a joy 1;");
        Check.due("1", y.says(0, 1), 1);
        Check.due("h", y.saying(), 32);
        Check.due("200", y.says(0, 200), 5);
        Check.due("the five", y.saying(), 31);
        for (int n : new int[] {Integer.MIN_VALUE, -1, 0, 201, 241, Integer.MAX_VALUE}) {
            Check.due("says(0, " + n + ")", y.says(0, n), -1);
        }
        for (int b : new int[] {Integer.MIN_VALUE, -1, 1, 7, Integer.MAX_VALUE}) {
            Check.due("says(" + b + ", 1)", y.says(b, 1), -1);
        }
        Check.due("saying stays", y.saying(), 31);
    }

    private static void saying() {
        Check.of("Which, as bits, by the latest says() that was not NONE; NONE ahead of any.");
        CampAshes x = Check.camp("boy a 9;boy b 9;event c a joy 3;event d b joy 5;");
        Check.due("ahead of any", x.saying(), -1);
        x.says(0, 4);
        Check.due("behind a NONE", x.saying(), -1);
        x.says(1, 5);
        Check.due("d", x.saying(), 2);
        x.says(1, 6);
        x.says(0, 0);
        x.says(2, 5);
        Check.due("the latest that was not", x.saying(), 2);
        Check.campOf(x, "");
        Check.due("in a new CAMP, too", x.saying(), 2);
        StringBuilder ten = new StringBuilder("boy a 9;");
        for (int e = 0; e < 10; e++) {
            ten.append("event e").append((char) ('a' + e)).append(" a joy ").append(e + 1).append(';');
        }
        CampAshes y = Check.camp(ten.toString());
        Check.due("ten", y.says(0, 55), 10);
        Check.due("all bits", y.saying(), 1023);
        Check.due("nine", y.says(0, 54), 9);
        Check.due("all but the first", y.saying(), 1022);
        Check.due("two", y.says(0, 19), 2);
        Check.due("the last two", y.saying(), 768);
    }

    private static void tents() {
        Check.of("TENTS for n: the fewest sets of BOYS, LOADS of n at most in each, that have all BOYS.");
        CampAshes x = Check.camp("boy a 9;boy b 9;boy c 9;boy d 9;event e a joy 3;event f b joy 3;event g c joy 2;event h d joy 4;");
        Check.due("just one", x.tents(12), 1);
        Check.due("one less", x.tents(11), 2);
        Check.due("two just so", x.tents(6), 2);
        Check.due("one less", x.tents(5), 3);
        Check.due("three", x.tents(4), 4);
        CampAshes pairs = Check.camp("boy a 9;boy b 9;boy c 9;boy d 9;boy e 9;boy f 9;event g a joy 7;event h b joy 6;event i c joy 5;"
            + "event j d joy 5;event k e joy 4;event l f joy 3;");
        // 7 and 3, 6 and 4, 5 and 5 are just 10.
        Check.due("three of ten", pairs.tents(10), 3);
        Check.due("four of nine", pairs.tents(9), 4);
        // The heavy ones first would need three tents; 6, 4, 3 and 5, 5, 3 need two.
        CampAshes tricky = Check.camp("boy a 9;boy b 9;boy c 9;boy d 9;boy e 9;boy f 9;event g a joy 6;event h b joy 5;event i c joy 5;"
            + "event j d joy 4;event k e joy 3;event l f joy 3;");
        Check.due("two of 13", tricky.tents(13), 2);
        Check.of("TENTS for n (1 to 400): how many; NONE: some LOAD is above that, not as told.");
        Check.due("the heaviest just fits", x.tents(4), 4);
        Check.due("he does not", x.tents(3), -1);
        Check.due("1", x.tents(1), -1);
        Check.due("400", x.tents(400), 1);
        for (int n : new int[] {Integer.MIN_VALUE, -1, 0, 401, Integer.MAX_VALUE}) {
            Check.due("tents(" + n + ")", x.tents(n), -1);
        }
        CampAshes light = Check.camp("boy a 9;boy b 9;");
        Check.due("nothing on them", light.tents(1), 1);
        Check.due("nobody", new CampAshes().tents(1), 0);
        Check.due("nobody, 400", new CampAshes().tents(400), 0);
        Check.due("nobody, 0", new CampAshes().tents(0), -1);
        CampAshes most = Check.camp("boy a 9;event b a joy 40;event c a joy 40;event d a joy 40;event e a joy 40;event f a joy 40;"
            + "event g a joy 40;event h a joy 40;event i a joy 40;event j a joy 40;event k a joy 40;fire 30;");
        Check.due("a LOAD of 400", most.tents(400), 1);
        Check.due("399", most.tents(399), -1);
        most.lie(0, 0);
        Check.due("a LOAD of 402", most.tents(400), -1);
    }

    private static void laws() {
        Check.of("triples of bytes: the HEAT, what was on one ahead, what behind a TELLING; 1 to 6 of them; HEAT 1 to 30");
        for (int bytes = 0; bytes <= 24; bytes++) {
            int[] text = new int[bytes];
            for (int i = 0; i < bytes; i++) {
                text[i] = i % 3 == 0 ? 10 : i % 3 == 1 ? 20 : 14;
            }
            boolean asTold = bytes % 3 == 0 && bytes >= 3 && bytes <= 18;
            CampAshes x = new CampAshes();
            Check.due(bytes + " bytes", Check.lawsOf(x, text), asTold ? 1 << 4 : -1);
            Check.due("the tape is empty", x.count(4), 0);
        }
        for (int heat = 0; heat < 256; heat++) {
            CampAshes x = new CampAshes();
            boolean asTold = heat >= 1 && heat <= 30;
            Check.due("heat " + heat, Check.lawsOf(x, heat, 40, 40 - 9 - heat / 5), asTold ? 1 << 9 : -1);
            Check.due("heat " + heat + " in the sixth", Check.lawsOf(x, 10, 40, 29, 10, 40, 29, 10, 40, 29, 10, 40, 29, 10, 40, 29,
                heat, 40, 40 - 9 - heat / 5), asTold ? 1 << 9 : -1);
            Check.due("heat " + heat + " behind one that no number fits", Check.lawsOf(x, 10, 40, 40, heat, 40, 39), asTold ? 0 : -1);
        }
    }

    private static void lawNumbers() {
        Check.of("numbers 0 to 9 that 'takes' can tell for that KIND");
        CampAshes x = new CampAshes();
        for (int number = 0; number <= 9; number++) {
            Check.due("the number " + number, Check.lawsOf(x, 1, 40, 40 - number), 1 << number);
            Check.due("the number " + number + " at 30", Check.lawsOf(x, 30, 40, 34 - number), 1 << number);
            Check.due("the number " + number + " or more", Check.lawsOf(x, 4, Math.max(1, number), 0), number < 2 ? 1022 : 1024 - (1 << number));
        }
        Check.due("10", Check.lawsOf(x, 1, 40, 30), 0);
        Check.due("-1", Check.lawsOf(x, 5, 40, 40), 0);
        Check.due("more behind than ahead", Check.lawsOf(x, 5, 40, 41), 0);
        Check.due("255 ahead", Check.lawsOf(x, 1, 255, 250), 32);
        Check.due("255 behind", Check.lawsOf(x, 1, 255, 255), 1);
        Check.due("128 ahead, 127 behind", Check.lawsOf(x, 1, 128, 127), 2);
        Check.due("all numbers", Check.lawsOf(x, 30, 6, 0), 1023);
        Check.due("what is on him at most", Check.lawsOf(x, 30, 7, 0), 1022);
        Check.due("two together", Check.lawsOf(x, 30, 9, 0, 10, 5, 0, 1, 5, 0), 1023 & ~31);
        Check.due("two against one another", Check.lawsOf(x, 10, 20, 13, 10, 20, 12), 0);
    }

    private static void watch() {
        Check.of("WATCH: how much (1 to 40) must be on one who TELLS at a HEAT of 10 so that the greatest number of these that may still "
            + "be left is the least, if one sees what is on him behind it (of like ones the least).");
        CampAshes x = new CampAshes();
        for (int number = 0; number <= 9; number++) {
            Check.lawsOf(x, 10, 40, 38 - number);
            Check.due("one alone: " + number, x.watch(), 1);
            // Below 11 nothing is left behind 8 and 9, and they look alike; where 9 is alone, all is seen already.
            Check.due("from " + number + " on", Check.lawsOf(x, 10, number + 2, 0), 1024 - (1 << number));
            Check.due("watch", x.watch(), number == 9 ? 1 : 11);
        }
    }

    private static void watchOfTheLatest() {
        Check.of("WATCH by the latest laws() above 0; NONE ahead of any.");
        CampAshes x = new CampAshes();
        Check.due("ahead of any", x.watch(), -1);
        Check.due("not as told", Check.lawsOf(x, 10), -1);
        Check.due("behind a NONE", x.watch(), -1);
        Check.due("no number", Check.lawsOf(x, 10, 5, 9), 0);
        Check.due("behind a 0", x.watch(), -1);
        Check.due("two numbers", Check.lawsOf(x, 10, 10, 0), 1 << 9 | 1 << 8);
        Check.due("watch", x.watch(), 11);
        Check.lawsOf(x, 10, 5, 9);
        Check.due("behind a 0 it stays", x.watch(), 11);
        Check.lawsOf(x, 31, 5, 9);
        Check.due("behind a NONE it stays", x.watch(), 11);
        Check.due("one number", Check.lawsOf(x, 10, 20, 18), 1);
        Check.due("watch", x.watch(), 1);
        Check.campOf(x, "boy a 1;");
        Check.due("a new CAMP leaves it", x.watch(), 1);
    }

    private static void calm() {
        Check.of("CALM of a BOY: DAYS (0: he is not OVER); NONE: not by DAY 400, no such one.");
        CampAshes x = Check.camp("boy a 9;boy b 9;event e a joy 9;event f b joy 10;");
        Check.due("just what he bears", x.calm(0), 0);
        Check.due("one more", x.calm(1), 1);
        for (int b : new int[] {Integer.MIN_VALUE, -1, 2, 7, Integer.MAX_VALUE}) {
            Check.due("calm(" + b + ")", x.calm(b), -1);
        }
        Check.of("each who is OVER tells the EVENT of which most is on him (of like ones the first");
        // By e 9 go at once; by f it would be one, and then one a day.
        CampAshes first = Check.camp("boy a 10;event e a fear 9;event f a joy 9;takes fear 9;takes joy 0;fire 10;");
        Check.due("the first", first.calm(0), 1);
        CampAshes second = Check.camp("boy a 10;event e a joy 9;event f a fear 9;takes fear 9;takes joy 0;fire 10;");
        // e to 7 at HEAT 10, then f, of which most is on him.
        Check.due("the second", second.calm(0), 2);
    }

    private static void calmOnWetDays() {
        Check.of("how many DAYS go till he is not OVER, if each DAY that is not WET");
        CampAshes x = Check.camp("boy a 9;event e a joy 16;wet 2;fire 30;turf 9;takes joy 0;");
        // Day 0: 6 off; day 1 is wet; day 2: heat 29/2+9=23, 23/2+9=20: 4 off.
        Check.due("a wet day between", x.calm(0), 3);
        x.days(1);
        // Heat 24 on day 1, 21 on day 2: 4 off, 19 on day 3, 18 (20/2+9=19, 19/2+9=18) on day 4.
        Check.due("a wet day first", x.calm(0), 4);
    }

    private static void calmAsLongAsThereIsHeat() {
        Check.of("as long as there is HEAT");
        CampAshes x = Check.camp("boy a 9;boy b 9;event e a joy 10;event f b joy 10;fire 1;turf 0;");
        Check.due("the first", x.calm(0), 1);
        Check.due("the second has no fire any more", x.calm(1), -1);
        CampAshes y = Check.camp("boy a 9;boy b 9;event e a joy 10;event f b joy 10;fire 1;turf 1;");
        Check.due("the first", y.calm(0), 1);
        Check.due("the second tells the next DAY", y.calm(1), 2);
        CampAshes z = Check.camp("boy a 9;boy b 9;event e a joy 9;event f b joy 10;fire 1;turf 0;");
        Check.due("who is not over tells nothing", z.calm(1), 1);
        CampAshes w = Check.camp("boy a 9;boy b 9;event e a joy 12;event f b joy 15;fire 1;turf 1;");
        // a by day 0; b 15 to 12 by day 1, to 9 by day 2.
        Check.due("who is not over any more tells nothing, too", w.calm(1), 3);
    }

    private static void calmByDay400() {
        Check.of("NONE: not by DAY 400");
        CampAshes x = Check.camp("boy a 9;event e a joy 15;fire 4;turf 2;");
        Check.due("two tellings", x.calm(0), 2);
        Check.pass(x, 398);
        Check.due("by day 400 just so", x.calm(0), 2);
        x.days(1);
        Check.due("one day too few", x.calm(0), -1);
        x.tell(0, 0);
        x.days(1);
        Check.due("on day 400 he is over", x.calm(0), -1);
        x.tell(0, 0);
        Check.due("and is not any more", x.calm(0), 0);
        CampAshes slow = Check.camp("boy a 1;event b a joy 40;event c a joy 40;event d a joy 40;event e a joy 40;event f a joy 40;event g a joy 40;"
            + "event h a joy 40;event i a joy 40;event j a joy 40;event k a joy 40;takes joy 1;fire 1;turf 1;");
        // One a day: 399 DAYS, then 1 is left, which he bears.
        Check.due("399 days", slow.calm(0), 399);
        slow.days(1);
        Check.due("399 of the 399 left", slow.calm(0), 399);
        slow.days(1);
        Check.due("398 are left", slow.calm(0), -1);
    }

    private static void allStays() {
        Check.of("all staying as it is");
        CampAshes x = Check.camp("boy a 9;boy b 20;event e a joy 16;event f b fear 10;wet 3;");
        Check.sentenceOf(x, "over");
        x.tell(0, 0);
        String before = Look.world(x);
        x.best();
        x.spread();
        x.says(0, 11);
        x.tents(50);
        Check.lawsOf(x, 10, 5, 0);
        x.watch();
        x.calm(0);
        x.tag(0);
        x.odds(0, 5, 3);
        x.image(0);
        Check.bookOf(x, "day 3;a tells e;", 0);
        Check.due("all", Look.world(x), before);
        Check.due("one can be undone, as ahead", x.undo(), 0);
    }
}
