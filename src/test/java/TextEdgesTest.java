/** 'Terms': each sentence on TOKENS, a CAMP, a BOOK, a SENTENCE and FAULTS that names an edge. */
public final class TextEdgesTest {
    private static final String CAMP = "boy abe 10;boy ben 20;event dark abe fear 14;event oath ben shame 6;";
    private static final String NOT_OVER = "not over";

    public static void main(String[] args) {
        blanks();
        words();
        numbers();
        signs();
        howFarATokenGoes();
        campBytes();
        campNumbers();
        campWithout();
        kinds();
        reservedNames();
        mostBoysAndEvents();
        bookBytes();
        bookLines();
        bookNumbers();
        sentenceBytes();
        sentenceNumbers();
        mostOnes();
        mostWithin();
        firstAlongTheText();
        ofOneTokenTheLeast();
        noTokenOrNotNow();
        cutShort();
        theEnd();
        moreBytes();
        readWhole();
        badNumbers();
        badNames();
        toldAgain();
        oneMore();
        Check.close();
    }

    private static void camp(String text, int lines) {
        CampAshes x = new CampAshes();
        Check.due("camp() of " + text, Check.campOf(x, text), lines);
        Check.due("fault() of " + text, x.fault(), 0);
    }

    private static void badCamp(String text, int kind, int place) {
        CampAshes x = new CampAshes();
        Check.due("camp() of " + text, Check.campOf(x, text), -1 - place);
        Check.due("fault() of " + text, x.fault(), kind);
    }

    private static void book(String text, int lines) {
        CampAshes x = Check.camp(CAMP);
        Check.bookOf(x, text, 0);
        Check.due("fault() of the book " + text, x.fault(), 0);
        Check.due("LINES of " + text, x.told(1), lines);
    }

    private static void badBook(String text, int kind, int place) {
        CampAshes x = Check.camp(CAMP);
        Check.due("book() of " + text, Check.bookOf(x, text, 0), -2 - place);
        Check.due("fault() of the book " + text, x.fault(), kind);
    }

    private static void sentence(String text, int ones) {
        CampAshes x = Check.camp(CAMP);
        Check.due("sentence() of " + text, Check.sentenceOf(x, text), ones);
        Check.due("fault() of the sentence " + text, x.fault(), 0);
    }

    private static void badSentence(String text, int kind, int place) {
        CampAshes x = Check.camp(CAMP);
        Check.due("sentence() of " + text, Check.sentenceOf(x, text), -1 - place);
        Check.due("fault() of the sentence " + text, x.fault(), kind);
    }

    private static String spaces(int n) {
        return Check.repeat(" ", n);
    }

    private static void blanks() {
        Check.of("TOKENS of all texts, with blanks (32, 10) between them or not");
        camp("boy a 1;fire 3;logs 4;", 3);
        camp("\n boy\n\na  1 ;\nfire\n3\n;logs 4 ; \n", 3);
        book("abe tells dark;log;day 3;", 3);
        book("\nabe\ntells  dark ;\n log\n;day\n3;\n", 3);
        sentence("not(over)and(load<3 or light)", 6);
        sentence(" not ( over )\nand\n( load < 3 or\nlight ) ", 6);
        for (int c = 0; c < 256; c++) {
            String text = "boy a" + (char) c + "1;";
            boolean goesOn = c >= 'a' && c <= 'z' || c >= '0' && c <= '9';
            if (c == 32 || c == 10) {
                camp(text, 1);
            } else {
                badCamp(text, 1, goesOn ? 4 : 5);
            }
        }
    }

    private static void words() {
        Check.of("WORDS: small letters, 1 to 7");
        for (int letters = 1; letters <= 40; letters++) {
            String text = "boy " + Check.repeat("z", letters) + " 1;";
            if (letters <= 7) {
                camp(text, 1);
            } else {
                badCamp(text, 1, 4);
            }
        }
        for (int c = 0; c < 256; c++) {
            if (c >= 'a' && c <= 'z') {
                camp("boy " + (char) c + " 1;", 1);
            } else if (c != 32 && c != 10) {
                badCamp("boy " + (char) c + " 1;", 1, 4);
            }
        }
        badCamp("aaaaaaaaaaboy a 1;", 1, 0);
        badCamp("boyboyboyboyboy a 1;", 1, 0);
        CampAshes x = Check.camp("boy abcdefg 1;boy hijklmn 2;boy opqrstu 3;boy vwxyz 4;");
        String[] names = {"abcdefg", "hijklmn", "opqrstu", "vwxyz"};
        for (int b = 0; b < 4; b++) {
            Check.due("tag", Check.tagOf(x, b), names[b] + " bears 0 of " + (b + 1));
        }
    }

    private static void numbers() {
        Check.of("NUMBERS: 1 to 3 digits");
        camp("boy a 7;", 1);
        camp("boy a 07;", 1);
        camp("boy a 007;", 1);
        badCamp("boy a 0007;", 1, 6);
        badCamp("boy a 00000000000007;", 1, 6);
        badCamp("boy a 4294967303;", 1, 6);
        badCamp("boy a 7/;", 1, 7);
        badCamp("boy a 7:;", 1, 7);
        CampAshes x = Check.camp("boy a 59;boy b 048;boy c 37;boy d 026;boy e 10;");
        int[] bears = {59, 48, 37, 26, 10};
        for (int b = 0; b < 5; b++) {
            Check.due("he bears", x.boy(b, 1), bears[b]);
        }
    }

    private static void signs() {
        Check.of("; < = > ( ) .");
        for (int c = 0; c < 256; c++) {
            if (c != ';' && c != 32 && c != 10 && (c < '0' || c > '9') && (c < 'a' || c > 'z')) {
                badCamp("fire 3" + (char) c, 1, 6);
            }
            if (c != '(' && c != 32 && c != 10 && (c < 'a' || c > 'z')) {
                badSentence((char) c + "over)", 1, 0);
            }
            if (c == '<' || c == '=' || c == '>') {
                sentence("load " + (char) c + " 3", 1);
            } else if (c != 32 && c != 10) {
                badSentence("load " + (char) c + " 3", 1, 5);
            }
        }
        sentence("(over)", 2);
        badSentence("(over]", 1, 5);
        badSentence("(over(", 1, 5);
        camp("fire 3;", 1);
    }

    private static void howFarATokenGoes() {
        Check.of("A WORD, NUMBER goes on as long as small letters and digits do; what is not as told is no TOKEN.");
        badCamp("boya 1;", 1, 0);
        badCamp("boy1 a 1;", 1, 0);
        badCamp("boy a1;", 1, 4);
        badCamp("boy 1a 1;", 1, 4);
        badCamp("boy a 1boy b 1;", 1, 6);
        badCamp("boy a 12b;", 1, 6);
        badCamp("boy a b12;", 1, 6);
        badCamp("fire3;", 1, 0);
        badBook("day3;", 1, 0);
        badBook("day 3log;", 1, 4);
        badBook("abetells dark;", 1, 0);
        badSentence("load<3or over", 1, 5);
        badSentence("overor over", 1, 0);
        badSentence("notover", 1, 0);
        sentence("not(over)or(light)", 5);
        // A capital ends the WORD and is no TOKEN itself.
        badCamp("boyA 1;", 1, 3);
        badSentence("over_", 1, 4);
    }

    private static void campBytes() {
        Check.of("A CAMP is a text of at most 900 bytes");
        camp("boy a 1;" + spaces(891), 1);
        camp("boy a 1;" + spaces(892), 1);
        badCamp("boy a 1;" + spaces(893), 1, 900);
        camp(spaces(892) + "boy a 1;", 1);
        badCamp(spaces(893) + "boy a 1;", 1, 900);
        camp(spaces(900), 0);
        badCamp(spaces(901), 1, 900);
        badCamp(spaces(940), 1, 900);
        camp("", 0);
    }

    /** Each NUMBER from 0 to 999 in its place. */
    private static void sweepCamp(String ahead, int least, int greatest) {
        for (int n = 0; n < 1000; n++) {
            if (n >= least && n <= greatest) {
                camp(ahead + n + ";", ahead.startsWith("boy a 1;") ? 2 : 1);
            } else {
                badCamp(ahead + n + ";", 2, ahead.length());
            }
        }
    }

    private static void campNumbers() {
        Check.of("'boy' NAME N (he BEARS: 1 to 60)");
        sweepCamp("boy a ", 1, 60);
        Check.due("bears 1", Check.camp("boy a 1;").boy(0, 1), 1);
        Check.due("bears 60", Check.camp("boy a 60;").boy(0, 1), 60);
        Check.of("'event' NAME BOY KIND N (it weighs 1 to 40 on him)");
        sweepCamp("boy a 1;event b a joy ", 1, 40);
        Check.due("weighs 1", Check.camp("boy a 1;event b a joy 1;").on(0, 0), 1);
        Check.due("weighs 40", Check.camp("boy a 1;event b a joy 40;").on(0, 0), 40);
        Check.of("'takes' KIND N (0 to 9; each KIND once; 3 without)");
        for (String kind : new String[] {"fear", "shame", "grief", "joy"}) {
            sweepCamp("takes " + kind + " ", 0, 9);
        }
        Check.due("takes 0", Check.camp("takes grief 0;fire 0;").takes(2), 0);
        Check.due("takes 9", Check.camp("takes grief 9;fire 0;").takes(2), 9);
        Check.of("'fire' N (its HEAT: 0 to 30; once; 10 without)");
        sweepCamp("fire ", 0, 30);
        Check.due("heat 0", Check.camp("fire 0;").now(1), 0);
        Check.due("heat 30", Check.camp("fire 30;").now(1), 30);
        Check.of("'logs' N (0 to 20; once; 2 without)");
        sweepCamp("logs ", 0, 20);
        Check.due("logs 0", Check.camp("logs 0;").now(2), 0);
        Check.due("logs 20", Check.camp("logs 20;").now(2), 20);
        Check.of("'turf' N (0 to 9; once; 1 without)");
        sweepCamp("turf ", 0, 9);
        Check.due("turf 0", Check.camp("turf 0;").count(2), 0);
        Check.due("turf 9", Check.camp("turf 9;").count(2), 9);
        Check.of("'wet' N (each N-th DAY: 2 to 30; once; none without)");
        sweepCamp("wet ", 2, 30);
        Check.due("wet 2", Check.camp("wet 2;").count(3), 2);
        Check.due("wet 30", Check.camp("wet 30;").count(3), 30);
    }

    private static void campWithout() {
        CampAshes x = Check.camp("boy a 1;");
        Check.of("'takes' KIND N (0 to 9; each KIND once; 3 without)");
        for (int kind = 0; kind < 4; kind++) {
            Check.due("3 and a fifth of 10", x.takes(kind), 5);
        }
        camp("takes fear 1;takes shame 2;takes grief 3;takes joy 4;", 4);
        CampAshes y = Check.camp("takes shame 9;fire 0;");
        Check.due("the others have 3", y.takes(0) + y.takes(2) + y.takes(3), 9);
        Check.due("this one 9", y.takes(1), 9);
        Check.of("'fire' N (its HEAT: 0 to 30; once; 10 without)");
        Check.due("heat", x.now(1), 10);
        Check.of("'logs' N (0 to 20; once; 2 without)");
        Check.due("logs", x.now(2), 2);
        Check.of("'turf' N (0 to 9; once; 1 without)");
        Check.due("turf", x.count(2), 1);
        Check.of("'wet' N (each N-th DAY: 2 to 30; once; none without)");
        Check.due("wet", x.count(3), 0);
    }

    private static void kinds() {
        Check.of("KIND: 'fear', 'shame', 'grief', 'joy', numbered from 0.");
        CampAshes x = Check.camp("boy a 1;event b a joy 1;event c a grief 1;event d a shame 1;event e a fear 1;takes fear 5;"
            + "takes shame 6;takes grief 7;takes joy 8;fire 0;");
        for (int e = 0; e < 4; e++) {
            Check.due("the kind of event " + e, x.event(e, 1), 3 - e);
            Check.due("takes(" + e + ")", x.takes(e), 5 + e);
        }
        badCamp("boy a 1;event b a kind 1;", 1, 18);
        badCamp("takes fears 1;", 1, 6);
    }

    private static void reservedNames() {
        Check.of("NAME: a WORD, none of those told here, in a BOOK or a SENTENCE; told once.");
        String told = "boy event takes fire logs turf wet fear shame grief joy tells lies gives log rake day "
            + "or and not over hushed light has his load bears tears number";
        for (String word : told.split(" ")) {
            badCamp("boy " + word + " 1;", 1, 4);
            badCamp("boy a 1;event " + word + " a joy 1;", 1, 14);
            String longer = word + "s";
            if (longer.length() <= 7 && !(" " + told + " ").contains(" " + longer + " ")) {
                camp("boy " + longer + " 1;", 1);
            }
            String shorter = word.substring(0, word.length() - 1);
            if (!(" " + told + " ").contains(" " + shorter + " ")) {
                camp("boy " + shorter + " 1;", 1);
            }
        }
        badCamp("boy a 1;boy b 1;boy a 1;", 3, 20);
    }

    private static String boys(int n) {
        StringBuilder text = new StringBuilder();
        for (int b = 0; b < n; b++) {
            text.append("boy ").append((char) ('a' + b)).append(' ').append(50 + b).append(';');
        }
        return text.toString();
    }

    private static String events(int n, String boy) {
        StringBuilder text = new StringBuilder();
        for (int e = 0; e < n; e++) {
            text.append("event e").append((char) ('a' + e)).append(' ').append(boy).append(" joy ").append(10 + e).append(';');
        }
        return text.toString();
    }

    private static void mostBoysAndEvents() {
        Check.of("7 BOYS, 10 EVENTS at most, numbered from 0 each.");
        CampAshes x = Check.camp(boys(7) + events(10, "g"));
        Check.due("boys", x.count(0), 7);
        Check.due("events", x.count(1), 10);
        for (int b = 0; b < 7; b++) {
            Check.due("boy " + b + " bears", x.boy(b, 1), 50 + b);
        }
        for (int e = 0; e < 10; e++) {
            Check.due("event " + e + " weighs", x.event(e, 2), 10 + e);
            Check.due("event " + e + " is on the last boy", x.on(e, 6), 10 + e);
        }
        Check.due("all of them", x.boy(6, 5), 1023);
        badCamp(boys(8), 4, 7 * 9);
        badCamp(boys(1) + events(11, "a"), 4, 9 + 10 * 18);
        badCamp(boys(7) + events(10, "a") + "boy h 1;", 4, 7 * 9 + 10 * 18);
        badCamp(boys(7) + events(10, "a") + "event h a joy 1;", 4, 7 * 9 + 10 * 18);
    }

    private static void bookBytes() {
        Check.of("A BOOK is a text of at most 400 bytes");
        book("day 1;" + spaces(393), 1);
        book("day 1;" + spaces(394), 1);
        badBook("day 1;" + spaces(395), 1, 400);
        badBook(spaces(395) + "day 1;", 1, 400);
        book(spaces(400), 0);
        badBook(spaces(401), 1, 400);
        badBook(spaces(940), 1, 400);
        book("", 0);
    }

    private static void bookLines() {
        Check.of("{ LINE ; }, 40 at most");
        CampAshes x = Check.camp("fire 0;logs 0;");
        Check.due("40", Check.bookOf(x, Check.repeat("day 1;", 40), 1), -1);
        Check.due("all were lived", x.now(0), 40);
        badBook(Check.repeat("day 1;", 41), 4, 240);
        book(Check.repeat("day 1;", 39), 39);
        Check.due("a WRONG LINE is a LINE, too", Check.bookOf(x, Check.repeat("log;", 40), 0), 0);
        Check.due("41 of them", Check.bookOf(x, Check.repeat("log;", 41), 0), -2 - 160);
        Check.due("the fault", x.fault(), 4);
    }

    private static void bookNumbers() {
        Check.of("'gives' EVENT BOY N (1 to 40)");
        for (int n = 0; n < 1000; n++) {
            String text = "abe gives dark ben " + n + ";";
            if (n >= 1 && n <= 40) {
                book(text, n <= 14 ? 1 : 0);
            } else {
                badBook(text, 2, 19);
            }
        }
        Check.of("'day' N (1 to 60)");
        for (int n = 0; n < 1000; n++) {
            if (n >= 1 && n <= 60) {
                book("day " + n + ";", 1);
            } else {
                badBook("day " + n + ";", 2, 4);
            }
        }
    }

    private static void sentenceBytes() {
        Check.of("A SENTENCE is a text of at most 200 bytes");
        sentence(NOT_OVER + spaces(191), 2);
        sentence(NOT_OVER + spaces(192), 2);
        badSentence(NOT_OVER + spaces(193), 1, 200);
        sentence(spaces(192) + NOT_OVER, 2);
        badSentence(spaces(193) + NOT_OVER, 1, 200);
        badSentence(spaces(200), 1, 200);
        badSentence(spaces(201), 1, 200);
        badSentence("", 1, 0);
    }

    private static void sentenceNumbers() {
        Check.of("( 'load' | 'bears' | 'tears' | 'number' ) SIGN NUMBER. SIGN: < = >.");
        CampAshes x = Check.camp("boy a 9;boy b 30;event c b joy 30;");
        for (int n : new int[] {0, 1, 29, 30, 31, 100, 999}) {
            String[] signs = {"<", "=", ">"};
            for (String sign : signs) {
                boolean forZero = sign.equals("<") ? 0 < n : sign.equals("=") ? 0 == n : 0 > n;
                boolean forThirty = sign.equals("<") ? 30 < n : sign.equals("=") ? 30 == n : 30 > n;
                Check.due("one", Check.sentenceOf(x, "load " + sign + " " + n), 1);
                Check.due("load " + sign + " " + n, x.said(-1), (forZero ? 1 : 0) + (forThirty ? 1 : 0));
            }
        }
        badSentence("load < 1000", 1, 7);
        Check.sentenceOf(x, "bears < 9");
        Check.due("nobody bears less", x.said(-1), 0);
        Check.sentenceOf(x, "number = 1");
        Check.due("numbered from 0", x.said(0), 1);
        Check.sentenceOf(x, "tears = 0");
        Check.due("nobody wept", x.said(-1), 2);
    }

    private static void mostOnes() {
        Check.of("20 ONES, 8 within one another.");
        sentence(Check.repeat("over or ", 19) + "over", 20);
        badSentence(Check.repeat("over or ", 20) + "over", 4, 160);
        sentence(Check.repeat("not over or ", 9) + "not over", 20);
        badSentence(Check.repeat("not over or ", 10) + "over", 4, 120);
        sentence(Check.repeat("(over)and ", 9) + "(over)", 20);
        badSentence(Check.repeat("(over)and ", 9) + "(not over)", 4, 95);
        sentence(Check.repeat("load<1 or ", 19) + "load<1", 20);
        CampAshes x = Check.camp(CAMP);
        Check.sentenceOf(x, Check.repeat("light or ", 19) + "over");
        Check.due("the twentieth counts", x.said(0), 0);
        // 20 ONES, 19 of them on one level; abe is over, so he is not 'not over'.
        Check.due("20", Check.sentenceOf(x, "not " + Check.repeat("over and ", 18) + "over"), 20);
        Check.due("of nobody", x.said(-1), 0);
    }

    private static void mostWithin() {
        Check.of("20 ONES, 8 within one another.");
        for (int n = 1; n <= 7; n++) {
            sentence(Check.repeat("(", n) + "over" + Check.repeat(")", n), n + 1);
            sentence(Check.repeat("not ", n) + "over", n + 1);
        }
        badSentence(Check.repeat("(", 8) + "over" + Check.repeat(")", 8), 4, 8);
        badSentence(Check.repeat("not ", 8) + "over", 4, 32);
        badSentence(Check.repeat("not(", 4) + "over))))", 4, 16);
        sentence(Check.repeat("not(", 3) + "not over)))", 8);
        // Behind a bracket one is out of it again.
        sentence(Check.repeat("(", 7) + "over" + Check.repeat(")", 7) + "or not not not over", 12);
        sentence("((((((over and (over)))))))or over", 10);
        badSentence("((((((over and ((over))))))))", 4, 17);
        CampAshes x = Check.camp(CAMP);
        Check.sentenceOf(x, Check.repeat("not ", 7) + "over");
        Check.due("an odd number of 'not'", x.said(0), 1);
    }

    private static void firstAlongTheText() {
        Check.of("FAULTS, the first along the text");
        badCamp("boy a 1;boy a 0;", 3, 12);
        badCamp("boy a 61;boy a 1;", 2, 6);
        badCamp("wet 2;wet 99;", 3, 6);
        badCamp("takes joy 1;takes joy 10;", 3, 18);
        badCamp(boys(7) + "boy a 99", 4, 63);
        badCamp("boy a 99 99;", 2, 6);
        badCamp("event a b joy 99;", 3, 8);
        badBook("abe gives dark cy 99;", 3, 15);
        badBook("cy gives drk", 3, 0);
        badBook("day 61;cy", 2, 4);
        badSentence("has over", 1, 4);
        badSentence("has cat or cow", 3, 4);
        badSentence(Check.repeat("not ", 8) + "cow", 1, 32);
    }

    private static void ofOneTokenTheLeast() {
        Check.of("of one TOKEN the least");
        String forty = Check.repeat("day 1;", 40);
        badBook(forty + "cy tells dark;", 3, 240);
        badBook(forty + "dark tells dark;", 3, 240);
        badBook(forty + "tells dark;", 1, 240);
        badBook(forty + "boys1;", 1, 240);
        badBook(forty + "7;", 1, 240);
        badBook(forty + "abe tells cow;", 4, 240);
        badBook(forty + "rake;", 4, 240);
        badBook(forty + "log;", 4, 240);
        badBook(forty + "day 99;", 4, 240);
        String twenty = Check.repeat("over or ", 20);
        badSentence(twenty + "abe", 1, 160);
        badSentence(twenty + "or", 1, 160);
        badSentence(twenty + ")", 1, 160);
        badSentence(twenty + "has cow", 4, 160);
        badSentence(Check.repeat("(", 8) + ")", 1, 8);
        badSentence(Check.repeat("(", 8) + "3", 1, 8);
        badSentence(Check.repeat("(", 8) + "has cow", 4, 8);
    }

    private static void noTokenOrNotNow() {
        Check.of("1 no TOKEN, or one that can't come (at it;");
        badCamp("boy a 1; ;", 1, 9);
        badCamp("boy a 1;boy b ;", 1, 14);
        badCamp("a 1;", 1, 0);
        badCamp("boy a b;", 1, 6);
        badCamp("boy a 1 fire 3;", 1, 8);
        badCamp("boy a 1;event b a fear shame;", 1, 23);
        badCamp("boy a 1;event b fear 3;", 1, 16);
        badCamp("takes joy joy;", 1, 10);
        badCamp("fire;", 1, 4);
        badCamp("log 3;", 1, 0);
        badCamp("day 3;", 1, 0);
        badBook("abe;", 1, 3);
        badBook("abe takes dark;", 1, 4);
        badBook("abe tells;", 1, 9);
        badBook("abe tells dark ben;", 1, 15);
        badBook("abe gives dark ben ben;", 1, 19);
        badBook("logs;", 1, 0);
        badBook("log 3;", 1, 4);
        badBook("day;", 1, 3);
        badSentence("over not over", 1, 5);
        badSentence("over (over)", 1, 5);
        badSentence("not or", 1, 4);
        badSentence("(over))", 1, 6);
        badSentence("load over", 1, 5);
        badSentence("load < < 3", 1, 7);
        badSentence("has < 3", 1, 4);
        badSentence("has 3", 1, 4);
    }

    /** Each LINE and each ONE, cut ahead of each of its TOKENS: the ; or ) behind it can't come. */
    private static void cutShort() {
        Check.of("1 no TOKEN, or one that can't come (at it;");
        for (String line : new String[] {"boy a 1", "event c b joy 3", "takes joy 3", "fire 3", "logs 3", "turf 3", "wet 3"}) {
            String text = "boy b 1;";
            for (String token : line.split(" ")) {
                badCamp(text + ";", 1, text.length());
                text += token + " ";
            }
            camp(text + ";", 2);
            badCamp(text + "x;", 1, text.length());
            badCamp(text + "7;", 1, text.length());
        }
        for (String line : new String[] {"abe tells dark", "abe lies dark", "abe gives dark ben 3", "log", "rake", "day 3"}) {
            String text = "";
            for (String token : line.split(" ")) {
                badBook(text + ";", 1, text.length());
                text += token + " ";
            }
            badBook(text + "x;", 1, text.length());
            badBook(text + "7;", 1, text.length());
            badBook(text, 1, text.length());
        }
        for (String one : new String[] {"not over", "over", "has dark", "his dark", "load < 3", "tears > 3", "( over )"}) {
            String text = "( ";
            for (String token : one.split(" ")) {
                if (!token.equals(")")) {
                    badSentence(text + ")", 1, text.length());
                }
                text += token + " ";
            }
            badSentence(text + "x)", 1, text.length());
            badSentence(text + "7)", 1, text.length());
            badSentence(text, 1, text.length());
        }
    }

    private static void theEnd() {
        Check.of("the end: how many bytes there are");
        String[] tokens = {"boy", "abe", "10", ";", "event", "dark", "abe", "fear", "14", ";", "takes", "joy", "3", ";",
            "wet", "5", ";"};
        String text = "";
        int lines = 0;
        for (String token : tokens) {
            text += text.isEmpty() ? token : " " + token;
            lines += token.equals(";") ? 1 : 0;
            for (String behind : new String[] {"", " ", " \n "}) {
                if (token.equals(";")) {
                    camp(text + behind, lines);
                } else {
                    badCamp(text + behind, 1, text.length() + behind.length());
                }
            }
        }
        for (String part : new String[] {"abe", "abe tells", "abe tells dark", "abe gives dark", "abe gives dark ben",
            "abe gives dark ben 3", "log", "rake", "day", "day 3", "log;rake"}) {
            badBook(part, 1, part.length());
            badBook(part + "\n\n", 1, part.length() + 2);
        }
        for (String part : new String[] {"", "not", "(", "(over", "has", "his", "load", "load <", "over or", "over and",
            "over or not (", "(over and (light)"}) {
            badSentence(part, 1, part.length());
            badSentence(part + "  ", 1, part.length() + 2);
        }
    }

    private static void moreBytes() {
        Check.of("the most bytes told, if there are more and no FAULT is ahead");
        badCamp(spaces(900) + "boy a 1;", 1, 900);
        badCamp("boy a 1;" + spaces(892) + "?", 1, 900);
        badCamp("boy a 1;" + spaces(891) + "?", 1, 899);
        badCamp("boy a 1;" + spaces(891) + ";;", 1, 899);
        badCamp("boy a 0;" + spaces(893), 2, 6);
        badCamp("boy" + spaces(897) + " a 1;", 1, 900);
        badBook("day 1;" + spaces(394) + "?", 1, 400);
        badBook("day 1;" + spaces(393) + "?;", 1, 399);
        badBook("day 0;" + spaces(395), 2, 4);
        badBook("cy" + spaces(399), 3, 0);
        badSentence("over" + spaces(196) + "?", 1, 200);
        badSentence("over" + spaces(195) + "?;", 1, 199);
        badSentence("has cow" + spaces(194), 3, 4);
        badSentence("over or" + spaces(194), 1, 200);
        badSentence(Check.repeat("over or ", 20) + "over" + spaces(37), 4, 160);
    }

    private static void readWhole() {
        Check.of("TOKENS that begin ahead of it are read whole");
        // The NAME begins at 899 and is 7 letters long, then 8.
        badCamp(spaces(895) + "boy abcdefg 1;", 1, 900);
        badCamp(spaces(895) + "boy abcdefgh 1;", 1, 899);
        badCamp(spaces(895) + "boy a1;", 1, 899);
        badCamp(spaces(895) + "boy boy 1;", 1, 899);
        // The NUMBER begins at 899: 60, 61, 0601.
        badCamp(spaces(893) + "boy a 60;", 1, 900);
        badCamp(spaces(893) + "boy a 61;", 2, 899);
        badCamp(spaces(893) + "boy a 0601;", 1, 899);
        badCamp(spaces(893) + "boy a 6b;", 1, 899);
        badCamp("boy b 1;" + spaces(887) + "boy ben 1;", 1, 900);
        badCamp("boy be 1;" + spaces(886) + "boy be 1;", 3, 899);
        // One that begins at 900 is not looked at.
        badCamp(spaces(896) + "boy abcdefgh 1;", 1, 900);
        badBook(spaces(399) + "abe tells dark;", 1, 400);
        badBook(spaces(399) + "ab tells dark;", 3, 399);
        badBook(spaces(395) + "day 60;", 1, 400);
        badBook(spaces(395) + "day 61;", 2, 399);
        badBook(spaces(396) + "day 61;", 1, 400);
        badSentence(spaces(199) + "over", 1, 200);
        badSentence(spaces(199) + "oven", 1, 199);
        badSentence(spaces(195) + "has dark", 1, 200);
        badSentence(spaces(195) + "has dar", 3, 199);
        badSentence(spaces(196) + "has dar", 1, 200);
        badSentence(spaces(194) + "load<1000", 1, 199);
        badSentence(spaces(194) + "load<100", 1, 200);
    }

    private static void badNumbers() {
        Check.of("2 a NUMBER that is not as told (at it)");
        badCamp("boy a\n\n0 ;", 2, 7);
        badCamp("fire 1;logs 2;turf  10;", 2, 20);
        badCamp("wet 00;", 2, 4);
        badCamp("wet 001;", 2, 4);
        camp("wet 002;", 1);
        badBook("log;day  000;", 2, 9);
        badBook("abe gives dark ben 041;", 2, 19);
        // What a SENTENCE has no bounds for is as told.
        sentence("load < 999", 1);
        sentence("bears = 000", 1);
    }

    private static void badNames() {
        Check.of("3 a NAME told twice, not told, or of another sort");
        badCamp("boy a 1;boy a 1;", 3, 12);
        badCamp("boy a 1;event b a joy 1;event b a joy 1;", 3, 30);
        badCamp("boy a 1;event a a joy 1;", 3, 14);
        badCamp("boy a 1;event b a joy 1;boy b 1;", 3, 28);
        badCamp("event a b joy 1;", 3, 8);
        badCamp("boy a 1;event b c joy 1;boy c 1;", 3, 16);
        badCamp("boy a 1;event b b joy 1;", 3, 16);
        badCamp("boy a 1;event b a joy 1;event c b joy 1;", 3, 32);
        camp("boy a 1;boy aa 1;boy aaa 1;boy aaaaaaa 1;", 4);
        badBook("cy tells dark;", 3, 0);
        badBook("dark tells oath;", 3, 0);
        badBook("abe lies cow;", 3, 9);
        badBook("abe lies ben;", 3, 9);
        badBook("abe gives dark cy 3;", 3, 15);
        badBook("abe gives dark oath 3;", 3, 15);
        badSentence("has cow", 3, 4);
        badSentence("his ben", 3, 4);
        CampAshes x = Check.camp("boy abe 1;");
        Check.campOf(x, "boy ben 1;");
        Check.due("a name of an earlier CAMP", Check.bookOf(x, "abe tells dark;", 0), -2);
        Check.due("its fault", x.fault(), 3);
        Check.campOf(x, "boy cy 1;boy cy 1;");
        Check.due("a name of a CAMP with a FAULT", Check.bookOf(x, "cy tells dark;", 0), -2);
        Check.due("and its fault", x.fault(), 3);
        Check.due("the CAMP that stays", Check.bookOf(x, "ben tells cow;", 0), -2 - 10);
    }

    private static void toldAgain() {
        Check.of("'takes' of a KIND told again (at the KIND)");
        for (String kind : new String[] {"fear", "shame", "grief", "joy"}) {
            badCamp("takes " + kind + " 3;takes  " + kind + " 3;", 3, 16 + kind.length());
        }
        camp("takes fear 3;takes shame 3;takes grief 3;takes joy 3;", 4);
        Check.of("what is told once told again (at the WORD)");
        for (String word : new String[] {"fire", "logs", "turf", "wet"}) {
            badCamp(word + " 3; " + word + " 3;", 3, word.length() + 4);
            badCamp(word + " 3;" + word, 3, word.length() + 3);
            badCamp(word + " 3;boy a 1;" + word + " 99", 3, word.length() + 11);
        }
        camp("fire 3;logs 3;turf 3;wet 3;", 4);
    }

    private static void oneMore() {
        Check.of("4 one more than there may be of a sort, a 41st LINE of a BOOK (at the LINE's first WORD)");
        badCamp(boys(7) + " \nboy", 4, 65);
        badCamp(boys(7) + "boy boy", 4, 63);
        badCamp(boys(7) + "boy a 1;", 4, 63);
        badCamp(boys(1) + events(10, "a") + "  event", 4, 191);
        badCamp(boys(1) + events(10, "a") + "event a a joy 1;", 4, 189);
        camp(boys(7) + events(10, "a") + "takes joy 3;takes fear 3;fire 3;", 20);
        badBook(Check.repeat("day 1;", 40) + "  abe", 4, 242);
        badBook(Check.repeat("day 1;", 40) + "\nday 99;", 4, 241);
        Check.of("a 21st ONE, a ninth within (at its first TOKEN)");
        badSentence(Check.repeat("over or ", 20) + " has cow", 4, 161);
        badSentence(Check.repeat("over or ", 20) + " load", 4, 161);
        badSentence(Check.repeat("over or ", 20) + " (", 4, 161);
        badSentence(Check.repeat("over or ", 20) + " not", 4, 161);
        badSentence(Check.repeat("not ", 8) + "  not", 4, 34);
        badSentence(Check.repeat("not ", 8) + "  (", 4, 34);
        badSentence(Check.repeat("not ", 8) + "  his", 4, 34);
        badSentence(Check.repeat("not ", 8) + "  tears", 4, 34);
    }
}
