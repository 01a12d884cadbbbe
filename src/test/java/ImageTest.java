/** Promises 37 and 38: image and restore. */
public final class ImageTest {
    private static final String TEXT = "boy abe 10;boy ben 20;event dark abe fear 14;event oath ben shame 6;turf 3;wet 7;";

    public static void main(String[] args) {
        places();
        allComesBack();
        whatStays();
        noSentence();
        Check.close();
    }

    private static void places() {
        CampAshes x = Check.camp(TEXT);
        Check.due("image(-1)", x.image(-1), false);
        Check.due("image(2)", x.image(2), false);
        Check.due("restore(0) of nothing", x.restore(0), false);
        Check.due("restore(-1)", x.restore(-1), false);
        Check.due("restore(2)", x.restore(2), false);
        Check.due("image(1)", x.image(1), true);
        Check.due("restore(0) of nothing", x.restore(0), false);
        x.days(5);
        Check.due("image(0)", x.image(0), true);
        Check.due("restore(1)", x.restore(1), true);
        Check.due("day", x.now(0), 0);
        Check.due("restore(0)", x.restore(0), true);
        Check.due("day", x.now(0), 5);
    }

    private static void allComesBack() {
        CampAshes x = Check.camp(TEXT);
        x.tell(0, 0);
        x.lie(1, 1);
        x.log();
        x.days(1);
        x.tell(0, 0);
        Check.sentenceOf(x, "has dark");
        x.image(0);
        Check.campOf(x, "boy z 3;");
        Check.due("a sentence of the new one", Check.sentenceOf(x, "not over and not over"), 4);
        x.image(1);
        Check.due("restore", x.restore(0), true);
        Check.due("boys", x.count(0), 2);
        Check.due("turf", x.count(2), 3);
        Check.due("wet", x.count(3), 7);
        Check.due("day", x.now(0), 1);
        Check.due("heat", x.now(1), 8);
        Check.due("logs", x.now(2), 1);
        Check.due("hushed", x.now(5), 1);
        Check.due("green", x.now(6), 1);
        Check.due("wept", x.boy(0, 4), 0);
        Check.due("dark", x.on(0, 0), 14 - 5 - 4);
        Check.due("ashes", x.ashes(0), 9);
        Check.due("said", x.said(0), 0);
        Check.due("tag", Check.tagOf(x, 0), "abe bears 5 of 10");
        Check.due("names", Check.bookOf(x, "ben tells oath;", 1), -1);
        x.restore(1);
        Check.due("the other", Check.tagOf(x, 0), "z bears 0 of 3");
        x.restore(0);
        Check.due("an image stays as it was kept", x.now(5), 1);
    }

    private static void whatStays() {
        CampAshes x = Check.camp(TEXT);
        x.days(1);
        x.image(0);
        Check.due("image changes nothing", x.undo(), 0);
        x.best();
        x.spread();
        x.says(0, 14);
        x.tag(1);
        Check.lawsOf(x, 10, 5, 0);
        Check.bookOf(x, "day 3;rake;", 0);
        Check.sentenceOf(x, "odd");
        Check.type(x, "over");
        x.days(1);
        Check.due("restore", x.restore(0), true);
        Check.due("nothing can be undone", x.undo(), -1);
        Check.due("bestAt", x.bestAt(1), 1);
        Check.due("spreadOf", x.spreadOf(1), 4);
        Check.due("saying", x.saying(), 1);
        Check.due("byteAt", x.byteAt(0), 'b');
        Check.due("watch", x.watch(), 11);
        Check.due("told", x.told(0), 41);
        Check.due("fault", x.fault(), 1);
        Check.due("tape", x.count(4), 4);
        Check.due("the tape's text", x.sentence(), 1);
        x.days(1);
        Check.due("restore(1) of nothing", x.restore(1), false);
        Check.due("can be undone still", x.undo(), 0);
    }

    private static void noSentence() {
        CampAshes x = Check.camp(TEXT);
        x.image(0);
        Check.sentenceOf(x, "over");
        x.restore(0);
        Check.due("there was none", x.said(-1), -1);
    }
}
