import java.util.NoSuchElementException;
import java.util.Random;

/** Long runs of calls, by fixed seeds, on the class and on the model: each answer is the same, and nothing else is thrown. */
public final class RandomRunsTest {
    private static final String[] NAMES = {"abe", "ben", "cy", "dan", "ed", "flo", "gus", "dark", "oath", "dog", "kite", "moth",
        "lake", "bell", "rope", "star", "song", "abcdefg"};
    private static final String[] KINDS = {"fear", "shame", "grief", "joy"};
    private static final String[] PIECES = {"boy", "event", ";", "abe", "dark", "7", "0", "99", "1000", "abcdefgh", "a1", "<", "=",
        ">", "(", ")", ".", "not", "over", "and", "or", "takes", "joy", "day", "log", "tells", "gives", "", " ", "\n", "X"};

    private final Random random;
    private final CampAshes x = new CampAshes();
    private final Model m = new Model();
    private final String run;
    private String call = "";
    private int boys = 1;
    private int events = 1;

    private RandomRunsTest(int seed) {
        random = new Random(seed);
        run = "run " + seed;
    }

    public static void main(String[] args) {
        int runs = args.length > 0 ? Integer.parseInt(args[0]) : 600;
        for (int seed = 0; seed < runs; seed++) {
            new RandomRunsTest(seed).go();
        }
        Check.close();
    }

    private void go() {
        for (int i = 0; i < 500; i++) {
            step();
        }
    }

    private void same(long got, long want) {
        Check.due(run + ": " + call, got, want);
    }

    private int boy() {
        return random.nextInt(30) == 0 ? odd() : random.nextInt(boys + 1);
    }

    private int event() {
        return random.nextInt(30) == 0 ? odd() : random.nextInt(events + 1);
    }

    private int odd() {
        int[] some = {-1, -2, 7, 10, 40, 100, Integer.MIN_VALUE, Integer.MAX_VALUE};
        return some[random.nextInt(some.length)];
    }

    private int number(int most) {
        return random.nextInt(25) == 0 ? odd() : random.nextInt(most + 3);
    }

    private void type(String text) {
        String whole = text.length() > 940 ? text.substring(0, 940) : text;
        Check.type(x, whole);
        m.end(0);
        for (int i = 0; i < whole.length(); i += 20) {
            int[] five = new int[5];
            for (int k = 0; k < 20; k++) {
                five[k / 4] = five[k / 4] << 8 | (i + k < whole.length() ? whole.charAt(i + k) & 255 : 0);
            }
            m.feed(five[0], five[1], five[2], five[3], five[4]);
        }
        m.end(whole.length());
    }

    private String blank() {
        return random.nextInt(5) == 0 ? " \n " : " ";
    }

    private String spoilt(String text) {
        int how = random.nextInt(12);
        if (text.isEmpty() || how > 3) {
            return text;
        }
        int at = random.nextInt(text.length());
        String piece = PIECES[random.nextInt(PIECES.length)];
        if (how == 0) {
            return text.substring(0, at);
        }
        if (how == 1) {
            return text.substring(0, at) + piece + text.substring(at);
        }
        if (how == 2) {
            return text.substring(0, at) + piece + text.substring(Math.min(text.length(), at + 1 + random.nextInt(5)));
        }
        return text.substring(0, at) + Check.repeat(" ", random.nextInt(900)) + text.substring(at);
    }

    private String campText() {
        StringBuilder text = new StringBuilder();
        int b = random.nextInt(random.nextInt(12) == 0 ? 9 : 8);
        int e = random.nextInt(random.nextInt(12) == 0 ? 12 : 11);
        for (int i = 0; i < b; i++) {
            text.append("boy").append(blank()).append(NAMES[i]).append(' ').append(1 + random.nextInt(60)).append(";");
        }
        for (int i = 0; i < e && b > 0; i++) {
            text.append("event ").append(NAMES[Math.min(17, 7 + i)]).append(blank()).append(NAMES[random.nextInt(b)]).append(' ');
            text.append(KINDS[random.nextInt(4)]).append(' ').append(1 + random.nextInt(random.nextBoolean() ? 40 : 8)).append(";");
        }
        if (random.nextBoolean()) {
            text.append("takes ").append(KINDS[random.nextInt(4)]).append(' ').append(random.nextInt(10)).append(";");
        }
        if (random.nextInt(3) == 0) {
            text.append("takes ").append(KINDS[random.nextInt(4)]).append(' ').append(random.nextInt(10)).append(";");
        }
        String[] once = {"fire", "logs", "turf", "wet"};
        int[] most = {30, 20, 9, 30};
        for (int i = 0; i < 4; i++) {
            if (random.nextBoolean()) {
                text.append(once[i]).append(blank()).append(random.nextInt(most[i] + 1)).append(";");
            }
        }
        boys = Math.max(1, b);
        events = Math.max(1, e);
        return text.toString();
    }

    private String someBoy() {
        return NAMES[random.nextInt(boys)];
    }

    private String someEvent() {
        return NAMES[Math.min(17, 7 + random.nextInt(events))];
    }

    private String bookText() {
        StringBuilder text = new StringBuilder();
        int lines = random.nextInt(10) == 0 ? 38 + random.nextInt(5) : random.nextInt(8);
        for (int i = 0; i < lines; i++) {
            int act = lines > 30 ? 5 : random.nextInt(6);
            if (act == 0) {
                text.append(someBoy()).append(" tells ").append(someEvent());
            } else if (act == 1) {
                text.append(someBoy()).append(" lies ").append(someEvent());
            } else if (act == 2) {
                text.append(someBoy()).append(" gives ").append(someEvent()).append(' ').append(someBoy()).append(' ');
                text.append(1 + random.nextInt(5));
            } else {
                text.append(act == 3 ? "log" : act == 4 ? "rake" : "day " + (1 + random.nextInt(random.nextInt(9) == 0 ? 60 : 3)));
            }
            text.append(";");
        }
        return text.toString();
    }

    private String cond(int depth) {
        StringBuilder text = new StringBuilder(one(depth));
        int more = random.nextInt(3);
        for (int i = 0; i < more; i++) {
            text.append(random.nextBoolean() ? " or " : " and ").append(one(depth));
        }
        return text.toString();
    }

    private String one(int depth) {
        String[] plain = {"over", "hushed", "light"};
        String[] measured = {"load", "bears", "tears", "number"};
        String[] signs = {"<", " = ", ">"};
        int sort = random.nextInt(depth > 6 ? 4 : 7);
        if (sort == 0) {
            return plain[random.nextInt(3)];
        }
        if (sort == 1) {
            return (random.nextBoolean() ? "has " : "his ") + someEvent();
        }
        if (sort < 4) {
            return measured[random.nextInt(4)] + signs[random.nextInt(3)] + random.nextInt(random.nextBoolean() ? 4 : 40);
        }
        return sort == 4 ? "(" + cond(depth + 1) + ")" : "not " + one(depth + 1);
    }

    private String lawText() {
        StringBuilder text = new StringBuilder();
        int triples = random.nextInt(8);
        int law = random.nextInt(10);
        for (int i = 0; i < triples; i++) {
            int heat = random.nextInt(20) == 0 ? random.nextInt(256) : 1 + random.nextInt(30);
            int ahead = random.nextInt(random.nextInt(9) == 0 ? 256 : 30);
            int behind = random.nextInt(20) == 0 ? random.nextInt(256) : Math.max(0, ahead - law - heat / 5);
            text.append((char) heat).append((char) ahead).append((char) behind);
        }
        return text.append(random.nextInt(15) == 0 ? "x" : "").toString();
    }

    private void step() {
        int sort = random.nextInt(100);
        if (sort < 2) {
            type(spoilt(campText()));
            call = "camp()";
            same(x.camp(), m.camp());
        } else if (sort < 8) {
            textStep(sort);
        } else if (sort < 50) {
            act(sort);
        } else if (sort < 75) {
            ask(sort);
        } else {
            look();
        }
    }

    private void textStep(int sort) {
        if (sort < 5) {
            type(spoilt(bookText()));
            int lives = number(1);
            call = "book(" + lives + ")";
            same(x.book(lives), m.book(lives));
            for (int what = -1; what < 5; what++) {
                call = "told(" + what + ")";
                same(x.told(what), m.told(what));
            }
        } else if (sort < 7) {
            type(spoilt(cond(1)));
            call = "sentence()";
            same(x.sentence(), m.sentence());
        } else {
            type(lawText());
            call = "laws()";
            same(x.laws(), m.laws());
            call = "watch()";
            same(x.watch(), m.watch());
        }
        call = "fault()";
        same(x.fault(), m.fault());
    }

    private void act(int sort) {
        int b = boy();
        int e = event();
        int c = boy();
        int n = random.nextInt(4) == 0 ? number(40) : 1 + random.nextInt(6);
        if (sort < 18) {
            call = "tell(" + b + ", " + e + ")";
            same(x.tell(b, e), m.tell(b, e));
        } else if (sort < 24) {
            call = "lie(" + b + ", " + e + ")";
            same(x.lie(b, e), m.lie(b, e));
        } else if (sort < 34) {
            call = "give(" + b + ", " + e + ", " + c + ", " + n + ")";
            same(x.give(b, e, c, n), m.give(b, e, c, n));
        } else if (sort < 37) {
            call = "log()";
            same(x.log(), m.log());
        } else if (sort < 39) {
            call = "rake()";
            same(x.rake(), m.rake());
        } else if (sort < 44) {
            call = "days(" + n + ")";
            same(x.days(n), m.days(n));
        } else if (sort < 46) {
            int seed = random.nextInt();
            call = "drawn(" + n + ", " + seed + ")";
            same(x.drawn(n, seed), m.drawn(n, seed));
        } else if (sort < 49) {
            call = "undo()";
            same(x.undo(), m.undo());
        } else {
            places(number(1));
        }
    }

    private void places(int k) {
        if (random.nextBoolean()) {
            call = "image(" + k + ")";
            same(x.image(k) ? 1 : 0, m.image(k) ? 1 : 0);
        } else {
            call = "restore(" + k + ")";
            same(x.restore(k) ? 1 : 0, m.restore(k) ? 1 : 0);
        }
    }

    private void ask(int sort) {
        int b = boy();
        if (sort < 55) {
            call = "best()";
            same(x.best(), m.best());
        } else if (sort < 58) {
            call = "spread()";
            same(x.spread(), m.spread());
        } else if (sort < 63) {
            int n = random.nextInt(4) == 0 ? number(200) : 1 + random.nextInt(50);
            call = "says(" + b + ", " + n + ")";
            same(x.says(b, n), m.says(b, n));
            call = "saying()";
            same(x.saying(), m.saying());
        } else if (sort < 68) {
            int n = random.nextInt(4) == 0 ? number(400) : 10 + random.nextInt(80);
            call = "tents(" + n + ")";
            same(x.tents(n), m.tents(n));
        } else if (sort < 71) {
            call = "calm(" + b + ")";
            same(x.calm(b), m.calm(b));
        } else if (sort < 73) {
            call = "tag(" + b + ")";
            same(x.tag(b), m.tag(b));
            for (int i = -1; i < 31; i++) {
                call = "byteAt(" + i + ")";
                same(x.byteAt(i), m.byteAt(i));
            }
        } else {
            int n = number(6);
            int seed = random.nextInt();
            call = "odds(" + b + ", " + n + ", " + seed + ")";
            same(x.odds(b, n, seed), m.odds(b, n, seed));
        }
    }

    private void look() {
        int b = boy();
        int e = event();
        int what = number(8);
        call = "boy(" + b + ", " + what + ")";
        same(boyOf(b, what), m.boy(b, what));
        call = "on(" + e + ", " + b + ")";
        same(x.on(e, b), m.on(e, b));
        call = "event(" + e + ", " + what + ")";
        same(x.event(e, what), m.event(e, what));
        call = "takes(" + what + ")";
        same(x.takes(what), m.takes(what));
        call = "ashes(" + what + ")";
        same(x.ashes(what), m.ashes(what));
        call = "now(" + what + ")";
        same(x.now(what), m.now(what));
        call = "count(" + what + ")";
        same(x.count(what), m.count(what));
        call = "bestAt(" + what + ")";
        same(x.bestAt(what), m.bestAt(what));
        call = "spreadOf(" + b + ")";
        same(x.spreadOf(b), m.spreadOf(b));
        call = "said(" + (what - 1) + ")";
        same(x.said(what - 1), m.said(what - 1));
    }

    private int boyOf(int b, int what) {
        try {
            return x.boy(b, what);
        } catch (NoSuchElementException e) {
            return -9;
        }
    }
}
