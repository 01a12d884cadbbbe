import java.util.NoSuchElementException;

/** What the tests share: typing texts on the tape, and counting the answers that are not as due. */
final class Check {
    private static int wrong = 0;
    private static String words = "";

    private Check() {
    }

    /** The document's words that the checks behind this call are about; they stand ahead of what is not as due. */
    static void of(String quoted) {
        words = "'" + quoted + "': ";
    }

    static void due(String call, long got, long want) {
        if (got != want) {
            wrong++;
            System.out.println(words + call + " answered " + got + ", due is " + want);
        }
    }

    static void due(String call, boolean got, boolean want) {
        due(call, got ? 1 : 0, want ? 1 : 0);
    }

    static void due(String call, String got, String want) {
        if (!got.equals(want)) {
            wrong++;
            System.out.println(words + call + " answered " + got + ", due is " + want);
        }
    }

    static void close() {
        System.out.println(wrong == 0 ? "all answers are as due" : wrong + " answers are not as due");
        if (wrong != 0) {
            System.exit(1);
        }
    }

    /** The text alone is on the tape. */
    static void type(CampAshes x, String text) {
        x.end(0);
        for (int i = 0; i < text.length(); i += 20) {
            x.feed(four(text, i), four(text, i + 4), four(text, i + 8), four(text, i + 12), four(text, i + 16));
        }
        x.end(text.length());
    }

    private static int four(String text, int from) {
        int number = 0;
        for (int i = from; i < from + 4; i++) {
            number = number << 8 | (i < text.length() ? text.charAt(i) & 255 : 0);
        }
        return number;
    }

    static CampAshes camp(String text) {
        CampAshes x = new CampAshes();
        type(x, text);
        int lines = x.camp();
        if (lines < 0) {
            due("camp() of " + text, lines, 0);
        }
        return x;
    }

    static int campOf(CampAshes x, String text) {
        type(x, text);
        return x.camp();
    }

    static int bookOf(CampAshes x, String text, int lives) {
        type(x, text);
        return x.book(lives);
    }

    static int sentenceOf(CampAshes x, String text) {
        type(x, text);
        return x.sentence();
    }

    static int lawsOf(CampAshes x, int... bytes) {
        StringBuilder text = new StringBuilder();
        for (int one : bytes) {
            text.append((char) one);
        }
        type(x, text.toString());
        return x.laws();
    }

    static String tagOf(CampAshes x, int b) {
        int bytes = x.tag(b);
        StringBuilder text = new StringBuilder();
        for (int i = 0; i < bytes; i++) {
            text.append((char) x.byteAt(i));
        }
        return text.toString();
    }

    static boolean boyThrows(CampAshes x, int b, int what) {
        try {
            x.boy(b, what);
            return false;
        } catch (NoSuchElementException e) {
            return true;
        }
    }

    /** So many DAYS go, in strides that days() takes. */
    static void pass(CampAshes x, int days) {
        for (int left = days; left > 0; left -= 60) {
            x.days(Math.min(60, left));
        }
    }

    static String repeat(String text, int times) {
        StringBuilder all = new StringBuilder();
        for (int i = 0; i < times; i++) {
            all.append(text);
        }
        return all.toString();
    }
}
