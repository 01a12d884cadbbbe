/** Promises 19 to 28: best, spread, says, tents, laws, watch, calm. */
public final class AdviceTest {
    public static void main(String[] args) {
        best();
        spread();
        spreadOfAnEarlierCamp();
        says();
        tents();
        laws();
        watch();
        calm();
        Check.close();
    }

    private static void row(CampAshes x, int... boys) {
        for (int k = 0; k < boys.length; k++) {
            Check.due("bestAt(" + k + ")", x.bestAt(k), boys[k]);
        }
        Check.due("bestAt behind the last", x.bestAt(boys.length), -1);
    }

    private static void best() {
        CampAshes x = Check.camp("boy a 9;boy b 9;boy c 9;event e a joy 2;event f b joy 9;event g c joy 4;takes joy 1;fire 10;");
        Check.due("ahead of any", x.bestAt(0), -1);
        // Only the first teller meets a fire that takes 3: it should not be the one with 2.
        Check.due("best", x.best(), 3 + 2 + 2);
        row(x, 1, 0, 2);
        Check.due("bestAt(-1)", x.bestAt(-1), -1);
        x.tell(1, 1);
        row(x, 1, 0, 2);
        Check.due("best, one hushed", x.best(), 4);
        row(x, 0, 2);
        CampAshes y = Check.camp("boy a 9;boy b 9;boy c 9;event e a joy 2;event f b joy 9;event g c joy 4;fire 2;");
        Check.due("the fire goes out", y.best(), 6);
        row(y, 1, 2, 0);
        CampAshes z = Check.camp("boy a 9;boy b 9;event e a joy 7;event f a fear 7;event g a joy 8;event h b joy 1;takes fear 9;");
        Check.due("the heaviest alone", z.best(), 5 + 1);
        z.tell(0, 2);
        z.days(1);
        // e and f are alike now, and the first of them is of joy.
        Check.due("of like ones the first", z.best(), 3 + 1 + 1);
        row(z, 0, 1);
        CampAshes wet = Check.camp("boy a 9;event e a joy 7;wet 2;");
        Check.due("dry", wet.best(), 5);
        wet.days(1);
        Check.due("wet", wet.best(), 0);
        row(wet);
        CampAshes cold = Check.camp("boy a 9;event e a joy 7;fire 0;");
        Check.due("cold", cold.best(), 0);
        row(cold);
        CampAshes seven = Check.camp("boy a 1;boy b 1;boy c 1;boy d 1;boy e 1;boy f 1;boy g 1;event aa a joy 1;event bb b joy 2;"
            + "event cc c joy 3;event dd d joy 4;event ee e joy 5;event ff f joy 6;event gg g joy 7;takes joy 2;fire 17;");
        seven.tents(400);
        // Heats 17 to 15 take 5, 14 to 11 take 4: the heavy three go ahead.
        Check.due("seven", seven.best(), 1 + 2 + 3 + 4 + 5 + 5 + 5);
        row(seven, 4, 5, 6, 0, 1, 2, 3);
        CampAshes bare = Check.camp("boy a 9;boy b 9;event e b joy 7;takes joy 0;fire 4;");
        Check.due("nothing is taken", bare.best(), 0);
        row(bare, 1);
    }

    private static void gets(CampAshes x, int... amounts) {
        for (int b = 0; b < amounts.length; b++) {
            Check.due("spreadOf(" + b + ")", x.spreadOf(b), amounts[b]);
        }
        Check.due("spreadOf behind the last", x.spreadOf(amounts.length), -1);
        Check.due("spreadOf(-1)", x.spreadOf(-1), -1);
    }

    private static void spread() {
        CampAshes x = Check.camp("boy a 5;boy b 10;boy c 7;boy d 9;boy e 1;event f b joy 20;event g a joy 4;event h d joy 9;event i e joy 3;");
        Check.due("ahead of any", x.spreadOf(0), -1);
        Check.due("others can't", x.spread(), -1);
        Check.due("ahead of any that can", x.spreadOf(0), -1);
        x.tell(1, 0);
        Check.due("spread", x.spread(), 5 + 2);
        gets(x, 1, 0, 6, 0, 0);
        x.tell(4, 3);
        Check.due("spread", x.spread(), 5);
        gets(x, 1, 0, 4, 0, 0);
        x.undo();
        x.undo();
        Check.due("can't again", x.spread(), -1);
        gets(x, 1, 0, 4, 0, 0);
        CampAshes y = Check.camp("boy a 5;boy b 10;");
        Check.due("nobody over", y.spread(), 0);
        gets(y, 0, 0);
        CampAshes z = Check.camp("boy a 5;boy b 3;event e a joy 8;");
        Check.due("just so", z.spread(), 3);
        gets(z, 0, 3);
    }

    /** The boys are those of the spread, whoever is in the camp now. */
    private static void spreadOfAnEarlierCamp() {
        CampAshes x = new CampAshes();
        Check.due("of nobody", x.spread(), 0);
        gets(x);
        x.image(0);
        Check.campOf(x, "boy a 5;boy b 3;boy c 9;event e a joy 9;");
        gets(x);
        Check.due("of three", x.spread(), 4);
        gets(x, 0, 3, 1);
        x.image(1);
        Check.campOf(x, "boy d 5;event e d joy 9;");
        gets(x, 0, 3, 1);
        Check.due("he has no others", x.spread(), -1);
        gets(x, 0, 3, 1);
        x.restore(0);
        gets(x, 0, 3, 1);
        Check.due("of nobody again", x.spread(), 0);
        x.restore(1);
        gets(x);
        Check.campOf(x, "boy odd 0;");
        gets(x);
    }

    private static void says() {
        CampAshes x = Check.camp("boy a 60;boy b 9;event c a joy 3;event d a joy 5;event e a joy 8;event f a joy 2;"
            + "event g b joy 7;event h a joy 6;");
        Check.due("ahead of any", x.saying(), -1);
        Check.due("8", x.says(0, 8), 1);
        Check.due("8 is e", x.saying(), 4);
        Check.due("11", x.says(0, 11), 2);
        Check.due("11 is c and e, ahead of d and h", x.saying(), 5);
        Check.due("10", x.says(0, 10), 2);
        Check.due("10 is e and f", x.saying(), 12);
        Check.due("24", x.says(0, 24), 5);
        Check.due("24 is all of his", x.saying(), 47);
        Check.due("23", x.says(0, 23), -1);
        Check.due("1", x.says(0, 1), -1);
        Check.due("the latest that was not NONE", x.saying(), 47);
        Check.due("n 0", x.says(0, 0), -1);
        Check.due("n 201", x.says(0, 201), -1);
        Check.due("no such boy", x.says(2, 3), -1);
        Check.due("b -1", x.says(-1, 3), -1);
        Check.due("b", x.says(1, 7), 1);
        Check.due("his", x.saying(), 16);
        StringBuilder heavy = new StringBuilder("boy a 1;");
        for (int e = 0; e < 10; e++) {
            heavy.append("event e").append((char) ('a' + e)).append(" a joy ").append(e < 5 ? 40 : e < 9 ? 20 : 1).append(";");
        }
        CampAshes y = Check.camp(heavy.toString());
        Check.due("200", y.says(0, 200), 5);
        Check.due("the heavy ones", y.saying(), 31);
        Check.due("what would make 201 is not asked for", y.says(0, 201), -1);
        CampAshes many = Check.camp(heavy.toString().replace("40", "9"));
        Check.due("all ten", many.says(0, 5 * 9 + 4 * 20 + 1), 10);
        Check.due("all ten, as bits", many.saying(), 1023);
        Check.due("the one that weighs 1", many.says(0, 1), 1);
        Check.due("the last", many.saying(), 512);
    }

    private static void tents() {
        CampAshes x = Check.camp("boy a 1;boy b 1;boy c 1;boy d 1;boy e 1;boy f 1;boy g 1;event aa a joy 6;event bb b joy 5;"
            + "event cc c joy 5;event dd d joy 4;event ee e joy 4;event ff f joy 4;");
        Check.due("10", x.tents(10), 3);
        Check.due("14", x.tents(14), 2);
        Check.due("13", x.tents(13), 3);
        Check.due("28", x.tents(28), 1);
        Check.due("27", x.tents(27), 2);
        Check.due("400", x.tents(400), 1);
        Check.due("6", x.tents(6), 6);
        Check.due("5", x.tents(5), -1);
        Check.due("0", x.tents(0), -1);
        Check.due("401", x.tents(401), -1);
        CampAshes light = Check.camp("boy a 1;boy b 1;");
        Check.due("two with nothing", light.tents(1), 1);
        CampAshes full = Check.camp("boy a 1;boy b 1;event c a joy 5;");
        Check.due("one full, one with nothing", full.tents(5), 1);
        Check.due("nobody", new CampAshes().tents(1), 0);
        Check.due("nobody, 401", new CampAshes().tents(401), -1);
    }

    private static void laws() {
        CampAshes x = new CampAshes();
        Check.due("empty", x.laws(), -1);
        Check.due("2 bytes", Check.lawsOf(x, 10, 5), -1);
        Check.due("4 bytes", Check.lawsOf(x, 10, 5, 0, 10), -1);
        Check.due("heat 0", Check.lawsOf(x, 0, 5, 0), -1);
        Check.due("heat 31", Check.lawsOf(x, 31, 5, 0), -1);
        Check.due("heat 31 in the second", Check.lawsOf(x, 10, 5, 0, 31, 5, 0), -1);
        Check.due("ahead of any", x.watch(), -1);
        Check.due("heat 30", Check.lawsOf(x, 30, 20, 5), 1 << 9);
        Check.due("heat 30, 0", Check.lawsOf(x, 30, 20, 14), 1);
        Check.due("heat 4", Check.lawsOf(x, 4, 20, 18), 1 << 2);
        Check.due("heat 5", Check.lawsOf(x, 5, 20, 18), 1 << 1);
        Check.due("nothing left", Check.lawsOf(x, 1, 5, 0), 1023 & ~31);
        Check.due("all", Check.lawsOf(x, 10, 2, 0), 1023);
        Check.due("none", Check.lawsOf(x, 10, 5, 6), 0);
        Check.due("two", Check.lawsOf(x, 10, 5, 0, 10, 8, 0), 1023 & ~63);
        Check.due("against one another", Check.lawsOf(x, 10, 20, 13, 10, 20, 14), 0);
        int[] six = new int[18];
        int[] seven = new int[21];
        for (int i = 0; i < 21; i += 3) {
            seven[i] = 10;
            seven[i + 1] = 20;
            seven[i + 2] = 12;
        }
        System.arraycopy(seven, 0, six, 0, 18);
        Check.due("six", Check.lawsOf(x, six), 64);
        Check.due("seven", Check.lawsOf(x, seven), -1);
        Check.due("bytes are not below 0", Check.lawsOf(x, 10, 255, 248), 32);
    }

    private static void watch() {
        CampAshes x = new CampAshes();
        Check.lawsOf(x, 10, 5, 6);
        Check.due("behind a laws() of 0", x.watch(), -1);
        Check.lawsOf(x, 10, 2, 0);
        Check.due("all ten", x.watch(), 11);
        Check.lawsOf(x, 10, 20, 14);
        Check.due("one", x.watch(), 1);
        Check.lawsOf(x, 30, 8, 0);
        Check.due("2 to 9", x.watch(), 11);
        Check.lawsOf(x, 10, 5, 6);
        Check.lawsOf(x, 10);
        Check.due("the latest above 0", x.watch(), 11);
        Check.lawsOf(x, 25, 14, 0);
        Check.due("9 alone", x.watch(), 1);
        Check.lawsOf(x, 25, 13, 0);
        Check.due("8 and 9", x.watch(), 11);
    }

    private static void calm() {
        CampAshes x = Check.camp("boy a 10;boy b 5;event e a joy 14;event f b fear 20;event g b joy 20;fire 10;turf 1;");
        // Day 0: a tells at 10: 14 to 9; b at 9: f 20 to 16. Heat 8, then 5.
        Check.due("a", x.calm(0), 1);
        Check.due("no such one", x.calm(2), -1);
        Check.due("b -1", x.calm(-1), -1);
        Check.due("all stays", x.on(0, 0), 14);
        Check.due("nothing to undo", x.undo(), -1);
        x.tell(0, 0);
        Check.due("not over", x.calm(0), 0);
        // b: 40, heat 9: 4 -> 36 (f 16), heat 5; g 4 -> 32, heat 4/2+1=3; 3 a day from then on, heat 2 and 1.
        Check.due("b", x.calm(1), 2 + 9);
        CampAshes wet = Check.camp("boy a 10;event e a joy 14;wet 2;fire 10;");
        Check.due("dry", wet.calm(0), 1);
        wet.days(1);
        // Day 1 is wet; day 2 at heat 4: 3 off; day 3 is wet; day 4 at heat 2: 3 off.
        Check.due("wet first", wet.calm(0), 4);
        CampAshes never = Check.camp("boy a 10;event e a joy 14;takes joy 0;fire 4;turf 1;");
        Check.due("never", never.calm(0), -1);
        CampAshes cold = Check.camp("boy a 10;event e a joy 14;fire 0;turf 0;");
        Check.due("cold", cold.calm(0), -1);
        CampAshes late = Check.camp("boy a 10;boy b 2;event e a joy 14;turf 1;");
        for (int i = 0; i < 6; i++) {
            late.days(60);
        }
        late.days(39);
        Check.due("day 399", late.now(0), 399);
        Check.due("heat", late.now(1), 2);
        Check.due("not by day 400", late.calm(0), -1);
        late.log();
        late.log();
        // Heat 10 takes 5.
        Check.due("by day 400", late.calm(0), 1);
        late.days(1);
        Check.due("day 400, over", late.calm(0), -1);
        Check.due("day 400, not over", late.calm(1), 0);
        hushedToday();
    }

    private static void hushedToday() {
        CampAshes x = Check.camp("boy a 10;event e a joy 19;takes joy 9;fire 10;turf 9;");
        x.lie(0, 0);
        Check.due("who is hushed today tells from tomorrow on", x.calm(0), 2);
        x.days(1);
        Check.due("tomorrow", x.calm(0), 1);
    }
}
