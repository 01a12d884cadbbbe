import java.util.Arrays;

/** Promises 4 and 5: camp and fault. */
public final class CampTextTest {
    public static void main(String[] args) {
        goodTexts();
        tokens();
        numbers();
        names();
        onceAlone();
        tooMany();
        tooLong();
        whatStays();
        Check.close();
    }

    private static void good(String text, int lines) {
        CampAshes x = new CampAshes();
        Check.due("camp() of " + text, Check.campOf(x, text), lines);
        Check.due("fault() of " + text, x.fault(), 0);
    }

    private static void bad(String text, int kind, int place) {
        CampAshes x = new CampAshes();
        Check.due("camp() of " + text, Check.campOf(x, text), -1 - place);
        Check.due("fault() of " + text, x.fault(), kind);
    }

    private static void goodTexts() {
        good("", 0);
        good(" \n ", 0);
        good("boy a 1;", 1);
        good("boy\nabcdefg 060 ;  fire 0;logs 20;turf 9;wet 30;", 5);
        good("takes fear 0;takes shame 9;takes grief 1;takes joy 2;", 4);
        good("boy a 60;boy b 1;event c a fear 40;event d b joy 1;", 4);
    }

    private static void tokens() {
        bad("boy abcdefgh 1;", 1, 4);
        bad("boy a1 1;", 1, 4);
        bad("boy a 1a;", 1, 6);
        bad("boy a 0001;", 1, 6);
        bad("boy A 1;", 1, 4);
        bad("boy aB 1;", 1, 5);
        bad("boy a.1;", 1, 5);
        bad("boy\ta 1;", 1, 3);
        bad("boy a 1" + (char) 225 + ";", 1, 7);
        bad("boy a 1" + (char) 0, 1, 7);
        bad("boy a 1", 1, 7);
        bad("boy a 1  ", 1, 9);
        bad("boy a", 1, 5);
        bad("boy", 1, 3);
        bad("; boy a 1;", 1, 0);
        bad("boy a 1;;", 1, 8);
        bad("boy a 1 2;", 1, 8);
        bad("boy a b;", 1, 6);
        bad("boy a < 1;", 1, 6);
        bad("boy 1 a;", 1, 4);
        bad("bob a 1;", 1, 0);
        bad("tells a 1;", 1, 0);
        bad("boy a 1;event b a bear 3;", 1, 18);
        bad("boy a 1;event b a a 3;", 1, 18);
        bad("boy a 1;event b a 3;", 1, 18);
        bad("takes a 3;", 1, 6);
        bad("takes 3;", 1, 6);
        bad("fire;", 1, 4);
        bad("fire a;", 1, 5);
    }

    private static void numbers() {
        bad("boy a 0;", 2, 6);
        bad("boy a 61;", 2, 6);
        good("boy a 60;", 1);
        bad("boy a 1;event b a joy 0;", 2, 22);
        bad("boy a 1;event b a joy 41;", 2, 22);
        bad("takes joy 10;", 2, 10);
        bad("fire 31;", 2, 5);
        good("fire 30;", 1);
        bad("logs 21;", 2, 5);
        bad("turf 10;", 2, 5);
        bad("wet 1;", 2, 4);
        bad("wet 31;", 2, 4);
        bad("wet 999;", 2, 4);
        good("wet 2;", 1);
    }

    private static void names() {
        String[] words = {"boy", "event", "takes", "fire", "logs", "turf", "wet", "fear", "shame", "grief", "joy",
            "tells", "lies", "gives", "log", "rake", "day", "or", "and", "not", "over", "hushed", "light", "has",
            "his", "load", "bears", "tears", "number"};
        for (String word : words) {
            bad("boy " + word + " 3;", 1, 4);
            bad("boy a 1;event " + word + " a joy 1;", 1, 14);
            bad("boy a 1;event b " + word + " joy 1;", 1, 16);
            if (!Arrays.asList("fear", "shame", "grief", "joy").contains(word)) {
                bad("takes " + word + " 3;", 1, 6);
                bad("boy a 1;event b a " + word + " 1;", 1, 18);
            }
        }
        for (String word : new String[] {"boys", "events", "wept", "weeps", "of", "n", "kind", "name", "days", "a", "z"}) {
            good("boy " + word + " 3;", 1);
        }
        bad("boy a 1;boy a 2;", 3, 12);
        bad("boy a 1;event a a joy 1;", 3, 14);
        bad("boy a 1;event b a joy 1;event b a joy 1;", 3, 30);
        bad("boy a 1;event b a joy 1;boy b 1;", 3, 28);
        bad("boy a 1;event b c joy 1;", 3, 16);
        bad("boy a 1;event b b joy 1;", 3, 16);
        bad("boy a 1;event b a joy 1;event c b joy 1;", 3, 32);
        bad("event b a joy 1;boy a 1;", 3, 8);
    }

    private static void onceAlone() {
        bad("takes joy 1;takes joy 1;", 3, 18);
        bad("takes joy 1;takes fear 1;takes joy 99;", 3, 31);
        bad("fire 1;fire 1;", 3, 7);
        bad("logs 1;logs 1;", 3, 7);
        bad("turf 1;turf 1;", 3, 7);
        bad("wet 2;wet 2;", 3, 6);
        bad("wet 2;fire 1; wet", 3, 14);
    }

    private static String boys(int n) {
        StringBuilder text = new StringBuilder();
        for (int b = 0; b < n; b++) {
            text.append("boy ").append((char) ('a' + b)).append(" 9;");
        }
        return text.toString();
    }

    private static String events(int n) {
        StringBuilder text = new StringBuilder("boy a 9;");
        for (int e = 0; e < n; e++) {
            text.append("event e").append((char) ('a' + e)).append(" a joy 1;");
        }
        return text.toString();
    }

    private static void tooMany() {
        good(boys(7), 7);
        bad(boys(8), 4, 56);
        bad(boys(7) + "boy a", 4, 56);
        good(events(10), 11);
        bad(events(11), 4, 8 + 10 * 17);
        good(boys(7) + events(10).substring(8), 17);
    }

    private static void tooLong() {
        String line = "boy a 1;";
        good(line + Check.repeat(" ", 892), 1);
        bad(line + Check.repeat(" ", 893), 1, 900);
        bad(line + Check.repeat(" ", 932), 1, 900);
        bad(line + Check.repeat(" ", 892) + "boy b 1;", 1, 900);
        bad(line + Check.repeat(" ", 891) + "zoo", 1, 899);
        bad(line + Check.repeat(" ", 885) + "boy bbbbbb", 1, 900);
        bad(line + Check.repeat(" ", 885) + "boy bbbbbbb1", 1, 897);
        bad(line + Check.repeat(" ", 885) + "boy bbbbbbbb", 1, 897);
        bad(line + Check.repeat(" ", 885) + "boy  a  ", 3, 898);
        bad(line + Check.repeat(" ", 884) + "boy b 100;", 2, 898);
        bad(line + Check.repeat(" ", 884) + "boy b 10;", 1, 900);
        bad(Check.repeat(" ", 939) + "A", 1, 900);
    }

    private static void whatStays() {
        CampAshes x = Check.camp("boy a 5;event b a joy 3;");
        x.tell(0, 0);
        Check.due("sentence", Check.sentenceOf(x, "light"), 1);
        Check.due("a fault", Check.campOf(x, "boy c 4;boy d 0;"), -15);
        Check.due("fault", x.fault(), 2);
        Check.due("boys stay", x.count(0), 1);
        Check.due("ashes stay", x.ashes(3), 3);
        Check.due("the sentence stays", x.said(-1), 1);
        Check.due("acts can be undone still", x.undo(), 0);
        Check.due("a book of -1000", Check.bookOf(x, "log;", -1), -1000);
        Check.due("fault stays", x.fault(), 2);
        Check.due("a book", Check.bookOf(x, "log;", 0), -1);
        Check.due("fault goes", x.fault(), 0);
        Check.due("a sentence", Check.sentenceOf(x, "has a"), -5);
        Check.due("fault of the sentence", x.fault(), 3);
        Check.due("a good one", Check.sentenceOf(x, "has b"), 2 - 1);
        Check.due("fault goes again", x.fault(), 0);
        x.tell(0, 0);
        x.days(2);
        Check.due("a new camp", Check.campOf(x, "boy c 4;event d c fear 9;"), 2);
        Check.due("its day", x.now(0), 0);
        Check.due("its ashes", x.ashes(3), 0);
        Check.due("hushed", x.now(5), 0);
        Check.due("wept", x.boy(0, 4), 0);
        Check.due("no sentence", x.said(-1), -1);
        Check.due("nothing to undo", x.undo(), -1);
        Check.due("on him", x.on(0, 0), 9);
        String once = "takes joy 1;fire 1;logs 1;turf 1;wet 2;";
        Check.due("each once", Check.campOf(x, once), 5);
        Check.due("each once in the next, too", Check.campOf(x, once), 5);
        Check.due("and in the next", Check.campOf(x, "boy c 4;"), 1);
        Check.due("without 'takes'", x.takes(3), 3 + 2);
        Check.due("without 'fire'", x.now(1), 10);
        Check.due("without 'logs'", x.now(2), 2);
        Check.due("without 'turf'", x.count(2), 1);
        Check.due("without 'wet'", x.count(3), 0);
    }
}
