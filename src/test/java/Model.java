import java.util.ArrayList;
import java.util.Arrays;
import java.util.HashMap;
import java.util.LinkedHashSet;
import java.util.List;
import java.util.Map;
import java.util.Set;

/** The document once more, by other ways (all orders, all sets, whole copies), for RandomRunsTest. */
final class Model {
    private static final Set<String> WORDS = new LinkedHashSet<>(Arrays.asList(("boy event takes fire logs turf wet fear "
        + "shame grief joy tells lies gives log rake day or and not over hushed light has his load bears tears number").split(" ")));
    private static final List<String> KINDS = Arrays.asList("fear", "shame", "grief", "joy");

    /** CAMP, all that is so, and the SENTENCE. */
    private static final class World {
        List<String> boys = new ArrayList<>();
        List<Integer> bears = new ArrayList<>();
        List<String> events = new ArrayList<>();
        List<int[]> facts = new ArrayList<>();
        Map<String, Integer> told = new HashMap<>();
        int[][] on = new int[10][7];
        int[] ashes = new int[4];
        int[] wept = new int[7];
        boolean[] hushed = new boolean[7];
        int heat;
        int logs;
        int day;
        int green;
        List<Token> sentence = null;

        World copy() {
            World w = new World();
            w.boys = new ArrayList<>(boys);
            w.bears = new ArrayList<>(bears);
            w.events = new ArrayList<>(events);
            w.facts = new ArrayList<>(facts);
            w.told = new HashMap<>(told);
            for (int e = 0; e < 10; e++) {
                w.on[e] = on[e].clone();
            }
            w.ashes = ashes.clone();
            w.wept = wept.clone();
            w.hushed = hushed.clone();
            w.heat = heat;
            w.logs = logs;
            w.day = day;
            w.green = green;
            w.sentence = sentence;
            return w;
        }

        int setting(String word, int otherwise) {
            return told.getOrDefault(word, otherwise);
        }

        void begin() {
            heat = setting("fire", 10);
            logs = setting("logs", 2);
            for (int e = 0; e < events.size(); e++) {
                on[e][facts.get(e)[0]] = facts.get(e)[2];
            }
        }

        int load(int b) {
            int all = 0;
            for (int e = 0; e < 10; e++) {
                all += on[e][b];
            }
            return all;
        }

        boolean over(int b) {
            return load(b) > bears.get(b);
        }

        int overBits() {
            int bits = 0;
            for (int b = 0; b < boys.size(); b++) {
                bits += over(b) ? 1 << b : 0;
            }
            return bits;
        }

        boolean wet() {
            int n = setting("wet", 0);
            return n != 0 && (day + 1) % n == 0;
        }

        int takes(int kind, int atHeat) {
            return setting("takes " + KINDS.get(kind), 3) + atHeat / 5;
        }

        int speak(int b, int e, boolean lie) {
            if (on[e][b] == 0) {
                return 1;
            }
            if (wet()) {
                return 2;
            }
            if (heat == 0) {
                return 3;
            }
            if (hushed[b]) {
                return 4;
            }
            if (lie) {
                on[e][b] = Math.min(99, on[e][b] + 2);
                green++;
            } else {
                int kind = facts.get(e)[1];
                int less = Math.min(on[e][b], takes(kind, heat));
                on[e][b] -= less;
                ashes[kind] += less;
            }
            heat--;
            hushed[b] = true;
            return 0;
        }

        int give(int b, int e, int c, int n) {
            if (b == c) {
                return 1;
            }
            if (on[e][b] < n) {
                return 2;
            }
            if (load(c) + n > bears.get(c)) {
                return 3;
            }
            on[e][b] -= n;
            on[e][c] += n;
            return 0;
        }

        int log() {
            if (logs == 0) {
                return 1;
            }
            if (heat == 30) {
                return 2;
            }
            logs--;
            heat = Math.min(30, heat + 4);
            return 0;
        }

        int rake() {
            if (ashes[0] + ashes[1] + ashes[2] + ashes[3] == 0) {
                return 1;
            }
            ashes = new int[4];
            return 0;
        }

        boolean day() {
            if (day == 400) {
                return false;
            }
            for (int b = 0; b < boys.size(); b++) {
                wept[b] += over(b) ? 1 : 0;
            }
            heat = Math.min(30, heat / 2 + setting("turf", 1));
            day++;
            hushed = new boolean[7];
            return true;
        }

        int days(int n) {
            int gone = 0;
            while (gone < n && day()) {
                gone++;
            }
            return gone;
        }

        int heaviest(int b) {
            int found = -1;
            for (int e = events.size() - 1; e >= 0; e--) {
                if (on[e][b] > 0 && (found == -1 || on[e][b] >= on[found][b])) {
                    found = e;
                }
            }
            return found;
        }

        int drawn(int n, int seed) {
            int[] x = {seed};
            int gone = 0;
            while (gone < n && day < 400) {
                if (draw(x, 4) == 0) {
                    log();
                }
                for (int b = 0; b < boys.size(); b++) {
                    int act = draw(x, 4);
                    if (act < 3 && !events.isEmpty()) {
                        speak(b, draw(x, events.size()), act == 2);
                    }
                }
                day();
                gone++;
            }
            return gone;
        }

        private static int draw(int[] x, int n) {
            x[0] = x[0] * 1103515245 + 12345;
            return (x[0] >>> 8) % n;
        }
    }

    private static final class Token {
        final String text;
        final int at;
        final boolean whole;

        Token(String text, int at, boolean whole) {
            this.text = text;
            this.at = at;
            this.whole = whole;
        }

        boolean isNumber() {
            return whole && text.matches("[0-9]{1,3}");
        }

        boolean isName() {
            return whole && text.matches("[a-z]{1,7}") && !WORDS.contains(text);
        }

        boolean is(String other) {
            return whole && text.equals(other);
        }
    }

    private static final class Fault extends RuntimeException {
        private static final long serialVersionUID = 1;
        final int kind;
        final int at;

        Fault(int kind, Token token) {
            this.kind = kind;
            this.at = token.at;
        }
    }

    private StringBuilder tape = new StringBuilder();
    private World world = new World();
    private List<World> undos = new ArrayList<>();
    private World[] images = new World[2];
    private int fault = 0;
    private List<Integer> bestRow = new ArrayList<>();
    private int[] spreadOf = null;
    private int saying = -1;
    private int lawBits = 0;
    private String tag = "";
    private int[] told = null;
    private List<Token> tokens;
    private int next;
    private int ones;

    Model() {
        world.begin();
    }

    int feed(int a, int b, int c, int d, int e) {
        if (tape.length() + 20 > 940) {
            return -1;
        }
        for (int number : new int[] {a, b, c, d, e}) {
            for (int k = 3; k >= 0; k--) {
                tape.append((char) (number >>> 8 * k & 255));
            }
        }
        return tape.length();
    }

    boolean end(int n) {
        if (n < 0 || n > tape.length()) {
            return false;
        }
        tape.setLength(n);
        return true;
    }

    private void readTokens(int most) {
        String text = tape.toString();
        tape.setLength(0);
        tokens = new ArrayList<>();
        next = 0;
        int at = 0;
        while (at < Math.min(most, text.length())) {
            char c = text.charAt(at);
            int to = at;
            while (to < text.length() && String.valueOf(text.charAt(to)).matches("[a-z0-9]")) {
                to++;
            }
            if (to > at) {
                String run = text.substring(at, to);
                tokens.add(new Token(run, at, run.matches("[a-z]{1,7}|[0-9]{1,3}")));
                at = to;
            } else {
                if (c != 32 && c != 10) {
                    tokens.add(new Token(String.valueOf(c), at, ";<=>()".indexOf(c) >= 0));
                }
                at++;
            }
        }
        tokens.add(new Token("", Math.min(most, text.length()), text.length() <= most));
    }

    private Token token() {
        return tokens.get(next);
    }

    private boolean ended() {
        return next == tokens.size() - 1 && token().whole;
    }

    private Token pass(String... any) {
        for (String one : any) {
            if (token().is(one)) {
                return tokens.get(next++);
            }
        }
        throw new Fault(1, token());
    }

    private int passNumber(int least, int greatest) {
        if (!token().isNumber()) {
            throw new Fault(1, token());
        }
        int n = Integer.parseInt(token().text);
        if (n < least || n > greatest) {
            throw new Fault(2, token());
        }
        next++;
        return n;
    }

    private int passName(List<String> names) {
        if (!token().isName()) {
            throw new Fault(1, token());
        }
        int found = names.indexOf(token().text);
        if (found < 0) {
            throw new Fault(3, token());
        }
        next++;
        return found;
    }

    int camp() {
        readTokens(900);
        World w = new World();
        int lines = 0;
        fault = 0;
        try {
            while (!ended()) {
                campLine(w);
                pass(";");
                lines++;
            }
        } catch (Fault f) {
            fault = f.kind;
            return -1 - f.at;
        }
        w.begin();
        world = w;
        undos.clear();
        return lines;
    }

    private void newName(World w, List<String> names) {
        if (!token().isName()) {
            throw new Fault(1, token());
        }
        if (w.boys.contains(token().text) || w.events.contains(token().text)) {
            throw new Fault(3, token());
        }
        names.add(token().text);
        next++;
    }

    private void campLine(World w) {
        Token first = pass("boy", "event", "takes", "fire", "logs", "turf", "wet");
        switch (first.text) {
            case "boy":
                if (w.boys.size() == 7) {
                    throw new Fault(4, first);
                }
                newName(w, w.boys);
                w.bears.add(passNumber(1, 60));
                break;
            case "event":
                if (w.events.size() == 10) {
                    throw new Fault(4, first);
                }
                newName(w, w.events);
                int owner = passName(w.boys);
                int kind = KINDS.indexOf(pass("fear", "shame", "grief", "joy").text);
                w.facts.add(new int[] {owner, kind, passNumber(1, 40)});
                break;
            case "takes":
                Token which = pass("fear", "shame", "grief", "joy");
                if (w.told.containsKey("takes " + which.text)) {
                    throw new Fault(3, which);
                }
                w.told.put("takes " + which.text, passNumber(0, 9));
                break;
            default:
                if (w.told.containsKey(first.text)) {
                    throw new Fault(3, first);
                }
                int most = first.is("fire") || first.is("wet") ? 30 : first.is("logs") ? 20 : 9;
                w.told.put(first.text, passNumber(first.is("wet") ? 2 : 0, most));
        }
    }

    int fault() {
        return fault;
    }

    private boolean noBoy(int b) {
        return b < 0 || b >= world.boys.size();
    }

    private boolean noEvent(int e) {
        return e < 0 || e >= world.events.size();
    }

    /** -9 stands for the exception. */
    int boy(int b, int what) {
        if (noBoy(b) || what < 0 || what > 5) {
            return -9;
        }
        int bits = 0;
        for (int e = 0; e < 10; e++) {
            bits |= world.on[e][b] > 0 ? 1 << e : 0;
        }
        return new int[] {world.load(b), world.bears.get(b), world.over(b) ? 1 : 0, world.hushed[b] ? 1 : 0,
            world.wept[b], bits}[what];
    }

    int on(int e, int b) {
        return noBoy(b) || noEvent(e) ? -1 : world.on[e][b];
    }

    int event(int e, int what) {
        if (noEvent(e) || what < 0 || what > 3) {
            return -1;
        }
        return what < 3 ? world.facts.get(e)[what] : Arrays.stream(world.on[e]).sum();
    }

    int takes(int kind) {
        return kind < 0 || kind > 3 ? -1 : world.takes(kind, world.heat);
    }

    int ashes(int kind) {
        return kind < 0 || kind > 3 ? -1 : world.ashes[kind];
    }

    int now(int what) {
        if (what < 0 || what > 7) {
            return -1;
        }
        int hushed = 0;
        int loads = 0;
        for (int b = 0; b < 7; b++) {
            hushed |= world.hushed[b] ? 1 << b : 0;
            loads += world.load(b);
        }
        return new int[] {world.day, world.heat, world.logs, world.wet() ? 1 : 0, world.overBits(), hushed,
            world.green, loads}[what];
    }

    private void keep(World ahead) {
        undos.add(ahead);
        if (undos.size() > 8) {
            undos.remove(0);
        }
    }

    private int done(World ahead, int why) {
        if (why == 0) {
            keep(ahead);
        }
        return why;
    }

    int tell(int b, int e) {
        World ahead = world.copy();
        return noBoy(b) || noEvent(e) ? -1 : done(ahead, world.speak(b, e, false));
    }

    int lie(int b, int e) {
        World ahead = world.copy();
        return noBoy(b) || noEvent(e) ? -1 : done(ahead, world.speak(b, e, true));
    }

    int give(int b, int e, int c, int n) {
        World ahead = world.copy();
        return noBoy(b) || noEvent(e) || noBoy(c) || n < 1 || n > 40 ? -1 : done(ahead, world.give(b, e, c, n));
    }

    int log() {
        World ahead = world.copy();
        return done(ahead, world.log());
    }

    int rake() {
        World ahead = world.copy();
        return done(ahead, world.rake());
    }

    private int gone(World ahead, int days) {
        if (days > 0) {
            keep(ahead);
        }
        return days;
    }

    int days(int n) {
        World ahead = world.copy();
        return n < 1 || n > 60 ? -1 : gone(ahead, world.days(n));
    }

    int drawn(int n, int seed) {
        World ahead = world.copy();
        return n < 1 || n > 60 ? -1 : gone(ahead, world.drawn(n, seed));
    }

    int undo() {
        if (undos.isEmpty()) {
            return -1;
        }
        List<Token> sentence = world.sentence;
        world = undos.remove(undos.size() - 1);
        world.sentence = sentence;
        return undos.size();
    }

    int best() {
        List<Integer> able = new ArrayList<>();
        for (int b = 0; b < world.boys.size(); b++) {
            int e = world.heaviest(b);
            if (e >= 0 && world.copy().speak(b, e, false) == 0) {
                able.add(b);
            }
        }
        bestRow = null;
        int[] most = {-1};
        tryRows(able, new ArrayList<>(), most);
        return most[0];
    }

    private void tryRows(List<Integer> able, List<Integer> row, int[] most) {
        if (row.size() == able.size()) {
            int taken = 0;
            for (int k = 0; k < row.size() && k < world.heat; k++) {
                int e = world.heaviest(row.get(k));
                taken += Math.min(world.on[e][row.get(k)], world.takes(world.facts.get(e)[1], world.heat - k));
            }
            if (taken > most[0]) {
                most[0] = taken;
                bestRow = new ArrayList<>(row);
            }
            return;
        }
        for (int b : able) {
            if (!row.contains(b)) {
                row.add(b);
                tryRows(able, row, most);
                row.remove(row.size() - 1);
            }
        }
    }

    int bestAt(int k) {
        return k < 0 || k >= bestRow.size() ? -1 : bestRow.get(k);
    }

    int spread() {
        int much = 0;
        for (int b = 0; b < world.boys.size(); b++) {
            much += Math.max(0, world.load(b) - world.bears.get(b));
        }
        int[] gets = new int[world.boys.size()];
        int left = much;
        for (int b = 0; b < world.boys.size(); b++) {
            while (left > 0 && world.load(b) + gets[b] < world.bears.get(b)) {
                gets[b]++;
                left--;
            }
        }
        if (left > 0) {
            return -1;
        }
        spreadOf = gets;
        return much;
    }

    int spreadOf(int b) {
        return spreadOf == null || b < 0 || b >= spreadOf.length ? -1 : spreadOf[b];
    }

    int says(int b, int n) {
        if (noBoy(b) || n < 1 || n > 200) {
            return -1;
        }
        int found = -1;
        for (int set = 1023; set > 0; set--) {
            int weight = 0;
            boolean possible = true;
            for (int e = 0; e < 10; e++) {
                if ((set >> e & 1) == 1) {
                    weight += world.on[e][b];
                    possible &= world.on[e][b] > 0;
                }
            }
            if (possible && weight == n && (found == -1 || Integer.bitCount(set) <= Integer.bitCount(found))) {
                found = set;
            }
        }
        if (found == -1) {
            return -1;
        }
        saying = found;
        return Integer.bitCount(found);
    }

    int saying() {
        return saying;
    }

    int tents(int n) {
        if (n < 1 || n > 400) {
            return -1;
        }
        for (int b = 0; b < world.boys.size(); b++) {
            if (world.load(b) > n) {
                return -1;
            }
        }
        return pack(0, new ArrayList<>(), n);
    }

    private int pack(int b, List<Integer> tents, int n) {
        if (b == world.boys.size()) {
            return tents.size();
        }
        tents.add(world.load(b));
        int fewest = pack(b + 1, tents, n);
        tents.remove(tents.size() - 1);
        for (int t = 0; t < tents.size(); t++) {
            if (tents.get(t) + world.load(b) <= n) {
                tents.set(t, tents.get(t) + world.load(b));
                fewest = Math.min(fewest, pack(b + 1, tents, n));
                tents.set(t, tents.get(t) - world.load(b));
            }
        }
        return fewest;
    }

    int laws() {
        String text = tape.toString();
        tape.setLength(0);
        if (text.isEmpty() || text.length() > 18 || text.length() % 3 != 0) {
            return -1;
        }
        int bits = 0;
        for (int t = 0; t < 10; t++) {
            boolean can = true;
            for (int i = 0; i < text.length(); i += 3) {
                int heat = text.charAt(i);
                if (heat < 1 || heat > 30) {
                    return -1;
                }
                int ahead = text.charAt(i + 1);
                can &= text.charAt(i + 2) == ahead - Math.min(ahead, t + heat / 5);
            }
            bits |= can ? 1 << t : 0;
        }
        lawBits = bits > 0 ? bits : lawBits;
        return bits;
    }

    int watch() {
        if (lawBits == 0) {
            return -1;
        }
        int found = -1;
        int least = 99;
        for (int ahead = 1; ahead <= 40; ahead++) {
            int[] seen = new int[41];
            for (int t = 0; t < 10; t++) {
                if ((lawBits >> t & 1) == 1) {
                    seen[ahead - Math.min(ahead, t + 2)]++;
                }
            }
            int most = Arrays.stream(seen).max().getAsInt();
            if (most < least) {
                least = most;
                found = ahead;
            }
        }
        return found;
    }

    int calm(int b) {
        if (noBoy(b)) {
            return -1;
        }
        World w = world.copy();
        int gone = 0;
        while (w.over(b)) {
            if (w.day == 400) {
                return -1;
            }
            for (int c = 0; c < w.boys.size(); c++) {
                if (w.over(c)) {
                    w.speak(c, w.heaviest(c), false);
                }
            }
            w.day();
            gone++;
        }
        return gone;
    }

    int tag(int b) {
        if (noBoy(b)) {
            return -1;
        }
        tag = world.boys.get(b) + " bears " + world.load(b) + " of " + world.bears.get(b) + (world.over(b) ? " weeps" : "");
        return tag.length();
    }

    int byteAt(int i) {
        return i < 0 || i >= tag.length() ? -1 : tag.charAt(i);
    }

    int odds(int b, int n, int seed) {
        if (noBoy(b) || n < 1 || n > 30) {
            return -1;
        }
        int fine = 0;
        for (int i = 0; i < n; i++) {
            World w = world.copy();
            w.drawn(20, seed + i);
            fine += w.over(b) ? 0 : 1;
        }
        return fine;
    }

    int book(int lives) {
        if (lives != 0 && lives != 1) {
            return -1000;
        }
        readTokens(400);
        List<int[]> lines = new ArrayList<>();
        fault = 0;
        try {
            while (!ended()) {
                lines.add(bookLine(lines.size()));
                pass(";");
            }
        } catch (Fault f) {
            fault = f.kind;
            return -2 - f.at;
        }
        World w = world.copy();
        int wrong = -1;
        int why = 0;
        for (int i = 0; i < lines.size() && wrong == -1; i++) {
            why = live(w, lines.get(i));
            wrong = why == 0 ? -1 : i;
        }
        int fine = wrong == -1 ? lines.size() : wrong;
        told = new int[] {why, fine, w.day, w.overBits()};
        if (lives == 1 && fine > 0) {
            keep(world);
            world = w;
        }
        return wrong;
    }

    private int[] bookLine(int ahead) {
        Token first = token();
        int b = -1;
        if (first.is("log") || first.is("rake") || first.is("day")) {
            next++;
        } else {
            b = passName(world.boys);
        }
        if (ahead == 40) {
            throw new Fault(4, first);
        }
        if (b == -1) {
            return first.is("log") ? new int[] {3} : first.is("rake") ? new int[] {4} : new int[] {5, passNumber(1, 60)};
        }
        Token act = pass("tells", "lies", "gives");
        int e = passName(world.events);
        if (!act.is("gives")) {
            return new int[] {act.is("tells") ? 0 : 1, b, e};
        }
        int c = passName(world.boys);
        return new int[] {2, b, e, c, passNumber(1, 40)};
    }

    private static int live(World w, int[] line) {
        int why;
        switch (line[0]) {
            case 0:
            case 1:
                why = w.speak(line[1], line[2], line[0] == 1);
                break;
            case 2:
                why = w.give(line[1], line[2], line[3], line[4]);
                break;
            case 3:
                why = w.log();
                break;
            case 4:
                why = w.rake();
                break;
            default:
                why = w.day + line[1] > 400 ? 1 : 0;
                if (why == 0) {
                    w.days(line[1]);
                }
        }
        return why == 0 ? 0 : 10 * line[0] + why;
    }

    int told(int what) {
        return told == null || what < 0 || what > 3 ? -1 : told[what];
    }

    int sentence() {
        readTokens(200);
        ones = 0;
        fault = 0;
        try {
            cond(-1, 1);
            if (!ended()) {
                throw new Fault(1, token());
            }
        } catch (Fault f) {
            fault = f.kind;
            return -1 - f.at;
        }
        world.sentence = tokens;
        return ones;
    }

    int said(int k) {
        if (world.sentence == null) {
            return -1;
        }
        List<Integer> found = new ArrayList<>();
        for (int b = 0; b < world.boys.size(); b++) {
            tokens = world.sentence;
            next = 0;
            ones = 0;
            if (cond(b, 1)) {
                found.add(b);
            }
        }
        if (k == -1) {
            return found.size();
        }
        return k < 0 || k >= found.size() ? -1 : found.get(k);
    }

    /** Of boy -1 nothing is asked: the text is read alone. */
    private boolean cond(int b, int depth) {
        boolean holds = all(b, depth);
        while (token().is("or")) {
            next++;
            holds |= all(b, depth);
        }
        return holds;
    }

    private boolean all(int b, int depth) {
        boolean holds = one(b, depth);
        while (token().is("and")) {
            next++;
            holds &= one(b, depth);
        }
        return holds;
    }

    private boolean one(int b, int depth) {
        Token first = pass("not", "(", "over", "hushed", "light", "has", "his", "load", "bears", "tears", "number");
        if (ones == 20 || depth == 9) {
            throw new Fault(4, first);
        }
        ones++;
        switch (first.text) {
            case "not":
                return !one(b, depth + 1);
            case "(":
                boolean inner = cond(b, depth + 1);
                pass(")");
                return inner;
            case "over":
                return b >= 0 && world.over(b);
            case "hushed":
                return b >= 0 && world.hushed[b];
            case "light":
                return b >= 0 && world.load(b) == 0;
            case "has":
                int e = passName(world.events);
                return b >= 0 && world.on[e][b] > 0;
            case "his":
                return world.facts.get(passName(world.events))[0] == b;
            default:
                String sign = pass("<", "=", ">").text;
                int n = passNumber(0, 999);
                if (b < 0) {
                    return false;
                }
                int mine = first.is("load") ? world.load(b) : first.is("bears") ? world.bears.get(b)
                    : first.is("tears") ? world.wept[b] : b;
                return sign.equals("<") ? mine < n : sign.equals("=") ? mine == n : mine > n;
        }
    }

    boolean image(int k) {
        if (k < 0 || k > 1) {
            return false;
        }
        images[k] = world.copy();
        return true;
    }

    boolean restore(int k) {
        if (k < 0 || k > 1 || images[k] == null) {
            return false;
        }
        world = images[k].copy();
        undos.clear();
        return true;
    }

    int count(int what) {
        if (what < 0 || what > 4) {
            return -1;
        }
        return new int[] {world.boys.size(), world.events.size(), world.setting("turf", 1), world.setting("wet", 0),
            tape.length()}[what];
    }
}
