import java.util.Arrays;
import java.util.NoSuchElementException;

/** A camp of boys, what is on them, and the fire that takes some of it; ../shared/DOC.md has the promises. */
public final class CampAshes {
    public static final int NONE = -1;

    private static final int BOYS = 7;
    private static final int EVENTS = 10;
    private static final int KINDS = 4;
    private static final int HEAT_MOST = 30;
    private static final int DAY_MOST = 400;
    private static final int ON_MOST = 99;
    private static final int GIFT_MOST = 40;
    private static final int STRIDE_MOST = 60;
    private static final int TAPE_MOST = 940;
    private static final int CAMP_BYTES = 900;
    private static final int BOOK_BYTES = 400;
    private static final int SENTENCE_BYTES = 200;
    private static final int LINES = 40;
    private static final int ONES = 20;
    private static final int WITHIN = 8;
    private static final int NAME_LETTERS = 7;
    private static final int NUMBER_DIGITS = 3;
    private static final int KEPT_ACTS = 8;
    private static final int PLACES = 2;
    private static final int TAG_BYTES = 64;

    private static final int CAN_NOT_COME = 1;
    private static final int BAD_NUMBER = 2;
    private static final int BAD_NAME = 3;
    private static final int TOO_MANY = 4;

    private static final int BAD_LIVES = -1000;

    private final Tape tape = new Tape();
    private int faultKind;
    private final Camp camp = new Camp();
    private final Camp draftCamp = new Camp();
    private final State state = new State(camp);
    private final State trial = new State(camp);
    private final Sentence sentence = new Sentence();
    private final Sentence draftSentence = new Sentence();
    private final Book book = new Book();
    private final History history = new History(camp);
    private final Image[] images = {new Image(), new Image()};
    private final Advice advice = new Advice();
    private final Laws laws = new Laws();
    private final Draws draws = new Draws();
    private final byte[] tagText = new byte[TAG_BYTES];
    private int tagBytes;

    public CampAshes() {
        state.begin();
    }

    public int feed(int a, int b, int c, int d, int e) {
        if (tape.length + 20 > TAPE_MOST) {
            return NONE;
        }
        tape.putNumber(a);
        tape.putNumber(b);
        tape.putNumber(c);
        tape.putNumber(d);
        tape.putNumber(e);
        return tape.length;
    }

    public boolean end(int n) {
        if (n < 0 || n > tape.length) {
            return false;
        }
        tape.length = n;
        return true;
    }

    public int camp() {
        tape.startText(CAMP_BYTES);
        int lines = draftCamp.readText(tape);
        faultKind = tape.faultKind;
        if (lines == NONE) {
            return -1 - tape.faultAt;
        }
        camp.copyFrom(draftCamp);
        state.begin();
        sentence.clear();
        history.clear();
        return lines;
    }

    public int fault() {
        return faultKind;
    }

    public int boy(int b, int what) throws NoSuchElementException {
        if (!camp.hasBoy(b)) {
            throw new NoSuchElementException("no such boy");
        }
        switch (what) {
            case 0: return state.loads[b];
            case 1: return camp.bears[b];
            case 2: return state.isOver(b) ? 1 : 0;
            case 3: return state.isHushed(b) ? 1 : 0;
            case 4: return state.wept[b];
            case 5: return state.eventBits(b);
            default: throw new NoSuchElementException("no such what");
        }
    }

    public int on(int e, int b) {
        if (!camp.hasEvent(e) || !camp.hasBoy(b)) {
            return NONE;
        }
        return state.onBoy(e, b);
    }

    public int event(int e, int what) {
        if (!camp.hasEvent(e)) {
            return NONE;
        }
        switch (what) {
            case 0: return camp.owners[e];
            case 1: return camp.kinds[e];
            case 2: return camp.weights[e];
            case 3: return state.leftOf(e);
            default: return NONE;
        }
    }

    public int takes(int kind) {
        return kind >= 0 && kind < KINDS ? state.wouldTake(kind) : NONE;
    }

    public int ashes(int kind) {
        return kind >= 0 && kind < KINDS ? state.ashHeaps[kind] : NONE;
    }

    public int now(int what) {
        switch (what) {
            case 0: return state.day;
            case 1: return state.heat;
            case 2: return state.logPile;
            case 3: return state.isWet() ? 1 : 0;
            case 4: return state.overBits();
            case 5: return state.hushed;
            case 6: return state.green;
            case 7: return state.allLoads();
            default: return NONE;
        }
    }

    public int tell(int b, int e) {
        if (!camp.hasBoy(b) || !camp.hasEvent(e)) {
            return NONE;
        }
        trial.copyFrom(state);
        return keepIfDone(trial.tellEvent(b, e));
    }

    public int lie(int b, int e) {
        if (!camp.hasBoy(b) || !camp.hasEvent(e)) {
            return NONE;
        }
        trial.copyFrom(state);
        return keepIfDone(trial.lieAbout(b, e));
    }

    public int give(int b, int e, int c, int n) {
        if (!camp.hasBoy(b) || !camp.hasEvent(e) || !camp.hasBoy(c) || n < 1 || n > GIFT_MOST) {
            return NONE;
        }
        trial.copyFrom(state);
        return keepIfDone(trial.giveSome(b, e, c, n));
    }

    public int log() {
        trial.copyFrom(state);
        return keepIfDone(trial.putLogOn());
    }

    public int rake() {
        trial.copyFrom(state);
        return keepIfDone(trial.rakeAshes());
    }

    public int days(int n) {
        if (n < 1 || n > STRIDE_MOST) {
            return NONE;
        }
        trial.copyFrom(state);
        int gone = trial.passDays(n);
        if (gone > 0) {
            keepTrial();
        }
        return gone;
    }

    public int undo() {
        return history.takeBack(state);
    }

    public int best() {
        return advice.findBest(camp, state);
    }

    public int bestAt(int k) {
        return k >= 0 && k < advice.rowLength ? advice.row[k] : NONE;
    }

    public int spread() {
        return advice.findSpread(camp, state);
    }

    public int spreadOf(int b) {
        return b >= 0 && b < advice.getters ? advice.gets[b] : NONE;
    }

    public int says(int b, int n) {
        if (!camp.hasBoy(b) || n < 1 || n > 200) {
            return NONE;
        }
        return advice.findSaying(camp, state, b, n);
    }

    public int saying() {
        return advice.sayingBits;
    }

    public int tents(int n) {
        if (n < 1 || n > 400) {
            return NONE;
        }
        return advice.countTents(camp, state, n);
    }

    public int laws() {
        int found = laws.findLaws(tape);
        tape.length = 0;
        return found;
    }

    public int watch() {
        return laws.findWatch();
    }

    public int calm(int b) {
        if (!camp.hasBoy(b)) {
            return NONE;
        }
        trial.copyFrom(state);
        return trial.daysToCalm(b);
    }

    public int tag(int b) {
        if (!camp.hasBoy(b)) {
            return NONE;
        }
        tagBytes = 0;
        putName(camp.names[b]);
        putText(" bears ");
        putDigits(state.loads[b]);
        putText(" of ");
        putDigits(camp.bears[b]);
        if (state.isOver(b)) {
            putText(" weeps");
        }
        return tagBytes;
    }

    public int byteAt(int i) {
        return i >= 0 && i < tagBytes ? tagText[i] : NONE;
    }

    public int drawn(int n, int seed) {
        if (n < 1 || n > STRIDE_MOST) {
            return NONE;
        }
        trial.copyFrom(state);
        draws.start(seed);
        int gone = trial.drawDays(n, draws);
        if (gone > 0) {
            keepTrial();
        }
        return gone;
    }

    public int odds(int b, int n, int seed) {
        if (!camp.hasBoy(b) || n < 1 || n > 30) {
            return NONE;
        }
        int fine = 0;
        for (int i = 0; i < n; i++) {
            trial.copyFrom(state);
            draws.start(seed + i);
            trial.drawDays(20, draws);
            if (!trial.isOver(b)) {
                fine++;
            }
        }
        return fine;
    }

    public int book(int lives) {
        if (lives != 0 && lives != 1) {
            return BAD_LIVES;
        }
        tape.startText(BOOK_BYTES);
        boolean whole = book.readText(tape, camp);
        faultKind = tape.faultKind;
        if (!whole) {
            return -2 - tape.faultAt;
        }
        trial.copyFrom(state);
        int wrong = book.judge(trial);
        if (lives == 1 && book.linesDone > 0) {
            keepTrial();
        }
        return wrong;
    }

    public int told(int what) {
        if (!book.judged) {
            return NONE;
        }
        switch (what) {
            case 0: return book.why;
            case 1: return book.linesDone;
            case 2: return book.dayThen;
            case 3: return book.overThen;
            default: return NONE;
        }
    }

    public int sentence() {
        tape.startText(SENTENCE_BYTES);
        boolean whole = draftSentence.readText(tape, camp);
        faultKind = tape.faultKind;
        if (!whole) {
            return -1 - tape.faultAt;
        }
        sentence.copyFrom(draftSentence);
        return sentence.ones;
    }

    public int said(int k) {
        if (!sentence.present || k < NONE) {
            return NONE;
        }
        int bits = sentence.boysOf(state);
        if (k == NONE) {
            return Integer.bitCount(bits);
        }
        int ahead = 0;
        for (int b = 0; b < BOYS; b++) {
            if ((bits >> b & 1) == 1) {
                if (ahead == k) {
                    return b;
                }
                ahead++;
            }
        }
        return NONE;
    }

    public boolean image(int k) {
        if (k < 0 || k >= PLACES) {
            return false;
        }
        images[k].keep(camp, state, sentence);
        return true;
    }

    public boolean restore(int k) {
        if (k < 0 || k >= PLACES || !images[k].kept) {
            return false;
        }
        images[k].giveBack(camp, state, sentence);
        history.clear();
        return true;
    }

    public int count(int what) {
        switch (what) {
            case 0: return camp.boyCount;
            case 1: return camp.eventCount;
            case 2: return camp.turf;
            case 3: return camp.wet;
            case 4: return tape.length;
            default: return NONE;
        }
    }

    private int keepIfDone(int why) {
        if (why == 0) {
            keepTrial();
        }
        return why;
    }

    private void keepTrial() {
        history.keep(state);
        state.copyFrom(trial);
    }

    private void putTagByte(int value) {
        if (tagBytes < TAG_BYTES) {
            tagText[tagBytes] = (byte) value;
            tagBytes++;
        }
    }

    private void putText(String text) {
        for (int i = 0; i < text.length(); i++) {
            putTagByte(text.charAt(i));
        }
    }

    private void putName(long name) {
        for (int shift = 5 * (NAME_LETTERS - 1); shift >= 0; shift -= 5) {
            int letter = (int) (name >> shift & 31);
            if (letter > 0) {
                putTagByte('a' - 1 + letter);
            }
        }
    }

    private void putDigits(int number) {
        if (number >= 100) {
            putTagByte('0' + number / 100 % 10);
        }
        if (number >= 10) {
            putTagByte('0' + number / 10 % 10);
        }
        putTagByte('0' + number % 10);
    }

    /** The words that no boy and no event is called by. */
    private enum Word {
        BOY("boy"), EVENT("event"), TAKES("takes"), FIRE("fire"), LOGS("logs"), TURF("turf"), WET("wet"),
        FEAR("fear", 0), SHAME("shame", 1), GRIEF("grief", 2), JOY("joy", 3),
        TELLS("tells"), LIES("lies"), GIVES("gives"), LOG("log"), RAKE("rake"), DAY("day"),
        OR("or"), AND("and"), NOT("not"), OVER("over"), HUSHED("hushed"), LIGHT("light"), HAS("has"), HIS("his"),
        LOAD("load"), BEARS("bears"), TEARS("tears"), NUMBER("number");

        private static final Word[] ALL = values();

        final long letters;
        final int kind;

        Word(String text) {
            this(text, NONE);
        }

        Word(String text, int kind) {
            long packed = 0;
            for (int i = 0; i < text.length(); i++) {
                packed = packed * 32 + (text.charAt(i) - 'a' + 1);
            }
            this.letters = packed;
            this.kind = kind;
        }

        static Word spelt(long letters) {
            for (Word word : ALL) {
                if (word.letters == letters) {
                    return word;
                }
            }
            return null;
        }
    }

    /** The bytes that were fed, read token by token up to the first fault. Words are packed, five bits a letter. */
    private static final class Tape {
        static final int END = 0;
        static final int NO_TOKEN = 1;
        static final int WORD = 2;
        static final int NAME = 3;
        static final int NUMBER = 4;
        static final int SIGN = 5;

        final byte[] text = new byte[TAPE_MOST];
        int length;
        private int textLength;
        private int most;
        private int place;
        int sort;
        int at;
        int value;
        long letters;
        Word word;
        int faultKind;
        int faultAt;

        void putNumber(int number) {
            for (int shift = 24; shift >= 0 && length < TAPE_MOST; shift -= 8) {
                text[length] = (byte) (number >> shift);
                length++;
            }
        }

        /** The tape is empty from here on; its bytes stay till others come, and are read as a text. */
        void startText(int mostBytes) {
            textLength = length;
            length = 0;
            most = mostBytes;
            place = 0;
            faultKind = 0;
            faultAt = 0;
            next();
        }

        /** Tokens begin ahead of the most bytes alone, but the last of them is read whole. */
        void next() {
            int bound = Math.min(textLength, most);
            while (place < bound && (text[place] == ' ' || text[place] == '\n')) {
                place++;
            }
            word = null;
            value = 0;
            letters = 0;
            if (place >= bound) {
                at = bound;
                sort = END;
                return;
            }
            at = place;
            int digits = readRun();
            int run = place - at;
            if (run == 0) {
                readSign();
            } else if (digits == 0 && run <= NAME_LETTERS) {
                word = Word.spelt(letters);
                sort = word == null ? NAME : WORD;
            } else {
                sort = digits == run && run <= NUMBER_DIGITS ? NUMBER : NO_TOKEN;
            }
        }

        /** How many digits are in the letters and digits that come next. */
        private int readRun() {
            int digits = 0;
            for (; place < textLength; place++) {
                int c = text[place];
                if (c >= 'a' && c <= 'z') {
                    letters = letters * 32 + (c - 'a' + 1);
                } else if (c >= '0' && c <= '9') {
                    value = value * 10 + (c - '0');
                    digits++;
                } else {
                    break;
                }
            }
            return digits;
        }

        private void readSign() {
            value = text[place];
            boolean known = value == ';' || value == '<' || value == '=' || value == '>' || value == '(' || value == ')';
            sort = known ? SIGN : NO_TOKEN;
            place++;
        }

        /** More bytes than there may be are never an end that is as told. */
        boolean hasEnded() {
            return sort == END && textLength <= most;
        }

        boolean isWord(Word wanted) {
            return sort == WORD && word == wanted;
        }

        boolean isSign(char wanted) {
            return sort == SIGN && value == wanted;
        }

        /** Always false, so that a reading method can answer with it. */
        boolean fail(int kind) {
            faultKind = kind;
            faultAt = at;
            return false;
        }

        boolean passSign(char wanted) {
            if (!isSign(wanted)) {
                return fail(CAN_NOT_COME);
            }
            next();
            return true;
        }

        /** The number, or NONE behind a fault. */
        int passNumber(int least, int greatest) {
            if (sort != NUMBER) {
                fail(CAN_NOT_COME);
                return NONE;
            }
            if (value < least || value > greatest) {
                fail(BAD_NUMBER);
                return NONE;
            }
            int number = value;
            next();
            return number;
        }

        /** The number by which a camp knows the name that comes, or NONE behind a fault. */
        int passNamed(int number) {
            if (sort != NAME) {
                fail(CAN_NOT_COME);
                return NONE;
            }
            if (number == NONE) {
                fail(BAD_NAME);
                return NONE;
            }
            next();
            return number;
        }
    }

    /** What a camp's text tells: it stays till there is another camp. */
    private static final class Camp {
        private static final int FIRE_BIT = 1;
        private static final int LOGS_BIT = 2;
        private static final int TURF_BIT = 4;
        private static final int WET_BIT = 8;

        int boyCount;
        int eventCount;
        /** Boys first, events from BOYS on. */
        final long[] names = new long[BOYS + EVENTS];
        final int[] bears = new int[BOYS];
        final int[] owners = new int[EVENTS];
        final int[] kinds = new int[EVENTS];
        final int[] weights = new int[EVENTS];
        final int[] taken = new int[KINDS];
        int fire;
        int logCount;
        int turf;
        int wet;
        /** What the text that is being read has told already, as bits. */
        private int takesTold;
        private int onceTold;

        Camp() {
            clear();
        }

        private void clear() {
            boyCount = 0;
            eventCount = 0;
            Arrays.fill(taken, 3);
            fire = 10;
            logCount = 2;
            turf = 1;
            wet = 0;
            takesTold = 0;
            onceTold = 0;
        }

        void copyFrom(Camp other) {
            boyCount = other.boyCount;
            eventCount = other.eventCount;
            System.arraycopy(other.names, 0, names, 0, BOYS + EVENTS);
            System.arraycopy(other.bears, 0, bears, 0, BOYS);
            System.arraycopy(other.owners, 0, owners, 0, EVENTS);
            System.arraycopy(other.kinds, 0, kinds, 0, EVENTS);
            System.arraycopy(other.weights, 0, weights, 0, EVENTS);
            System.arraycopy(other.taken, 0, taken, 0, KINDS);
            fire = other.fire;
            logCount = other.logCount;
            turf = other.turf;
            wet = other.wet;
        }

        boolean hasBoy(int b) {
            return b >= 0 && b < boyCount;
        }

        boolean hasEvent(int e) {
            return e >= 0 && e < eventCount;
        }

        int boyNamed(long name) {
            for (int b = 0; b < boyCount; b++) {
                if (names[b] == name) {
                    return b;
                }
            }
            return NONE;
        }

        int eventNamed(long name) {
            for (int e = 0; e < eventCount; e++) {
                if (names[BOYS + e] == name) {
                    return e;
                }
            }
            return NONE;
        }

        /** How many lines there are, or NONE behind a fault. */
        int readText(Tape tape) {
            clear();
            for (int lines = 0; lines < TAPE_MOST; lines++) {
                if (tape.hasEnded()) {
                    return lines;
                }
                if (!readLine(tape) || !tape.passSign(';')) {
                    return NONE;
                }
            }
            tape.fail(CAN_NOT_COME);
            return NONE;
        }

        private boolean readLine(Tape tape) {
            if (tape.isWord(Word.BOY)) {
                return readBoy(tape);
            }
            if (tape.isWord(Word.EVENT)) {
                return readEvent(tape);
            }
            if (tape.isWord(Word.TAKES)) {
                return readTakes(tape);
            }
            return readOnce(tape);
        }

        private boolean readBoy(Tape tape) {
            if (boyCount >= BOYS) {
                return tape.fail(TOO_MANY);
            }
            tape.next();
            if (!isNewName(tape)) {
                return false;
            }
            names[boyCount] = tape.letters;
            tape.next();
            int most = tape.passNumber(1, 60);
            if (most == NONE) {
                return false;
            }
            bears[boyCount] = most;
            boyCount++;
            return true;
        }

        private boolean readEvent(Tape tape) {
            if (eventCount >= EVENTS) {
                return tape.fail(TOO_MANY);
            }
            tape.next();
            if (!isNewName(tape)) {
                return false;
            }
            names[BOYS + eventCount] = tape.letters;
            tape.next();
            int owner = tape.passNamed(boyNamed(tape.letters));
            if (owner == NONE || !isKind(tape)) {
                return false;
            }
            int kind = tape.word.kind;
            tape.next();
            int weight = tape.passNumber(1, 40);
            if (weight == NONE) {
                return false;
            }
            owners[eventCount] = owner;
            kinds[eventCount] = kind;
            weights[eventCount] = weight;
            eventCount++;
            return true;
        }

        private boolean readTakes(Tape tape) {
            tape.next();
            if (!isKind(tape)) {
                return false;
            }
            int kind = tape.word.kind;
            if ((takesTold >> kind & 1) == 1) {
                return tape.fail(BAD_NAME);
            }
            tape.next();
            int number = tape.passNumber(0, 9);
            if (number == NONE) {
                return false;
            }
            taken[kind] = number;
            takesTold |= 1 << kind;
            return true;
        }

        private boolean readOnce(Tape tape) {
            if (tape.isWord(Word.FIRE)) {
                fire = readOnceNumber(tape, FIRE_BIT, 0, HEAT_MOST);
                return fire != NONE;
            }
            if (tape.isWord(Word.LOGS)) {
                logCount = readOnceNumber(tape, LOGS_BIT, 0, 20);
                return logCount != NONE;
            }
            if (tape.isWord(Word.TURF)) {
                turf = readOnceNumber(tape, TURF_BIT, 0, 9);
                return turf != NONE;
            }
            if (tape.isWord(Word.WET)) {
                wet = readOnceNumber(tape, WET_BIT, 2, 30);
                return wet != NONE;
            }
            return tape.fail(CAN_NOT_COME);
        }

        private int readOnceNumber(Tape tape, int bit, int least, int greatest) {
            if ((onceTold & bit) != 0) {
                tape.fail(BAD_NAME);
                return NONE;
            }
            onceTold |= bit;
            tape.next();
            return tape.passNumber(least, greatest);
        }

        private boolean isNewName(Tape tape) {
            if (tape.sort != Tape.NAME) {
                return tape.fail(CAN_NOT_COME);
            }
            if (boyNamed(tape.letters) != NONE || eventNamed(tape.letters) != NONE) {
                return tape.fail(BAD_NAME);
            }
            return true;
        }

        private static boolean isKind(Tape tape) {
            if (tape.word == null || tape.word.kind == NONE) {
                return tape.fail(CAN_NOT_COME);
            }
            return true;
        }
    }

    /** All that is so on a day. Its acts answer 0, or why they were not done. */
    private static final class State {
        private final Camp camp;
        private final int[] on = new int[EVENTS * BOYS];
        final int[] loads = new int[BOYS];
        final int[] ashHeaps = new int[KINDS];
        final int[] wept = new int[BOYS];
        int hushed;
        int heat;
        int logPile;
        int day;
        int green;

        State(Camp camp) {
            this.camp = camp;
        }

        void begin() {
            Arrays.fill(on, 0);
            Arrays.fill(loads, 0);
            Arrays.fill(ashHeaps, 0);
            Arrays.fill(wept, 0);
            hushed = 0;
            heat = camp.fire;
            logPile = camp.logCount;
            day = 0;
            green = 0;
            for (int e = 0; e < camp.eventCount; e++) {
                putOn(e, camp.owners[e], camp.weights[e]);
            }
        }

        void copyFrom(State other) {
            System.arraycopy(other.on, 0, on, 0, EVENTS * BOYS);
            System.arraycopy(other.loads, 0, loads, 0, BOYS);
            System.arraycopy(other.ashHeaps, 0, ashHeaps, 0, KINDS);
            System.arraycopy(other.wept, 0, wept, 0, BOYS);
            hushed = other.hushed;
            heat = other.heat;
            logPile = other.logPile;
            day = other.day;
            green = other.green;
        }

        int onBoy(int e, int b) {
            return on[e * BOYS + b];
        }

        private void putOn(int e, int b, int more) {
            on[e * BOYS + b] += more;
            loads[b] += more;
        }

        boolean isOver(int b) {
            return loads[b] > camp.bears[b];
        }

        boolean isHushed(int b) {
            return (hushed >> b & 1) == 1;
        }

        boolean isWet() {
            return camp.wet > 0 && (day + 1) % camp.wet == 0;
        }

        int wouldTake(int kind) {
            return camp.taken[kind] + heat / 5;
        }

        int eventBits(int b) {
            int bits = 0;
            for (int e = 0; e < camp.eventCount; e++) {
                if (onBoy(e, b) > 0) {
                    bits |= 1 << e;
                }
            }
            return bits;
        }

        int overBits() {
            int bits = 0;
            for (int b = 0; b < camp.boyCount; b++) {
                if (isOver(b)) {
                    bits |= 1 << b;
                }
            }
            return bits;
        }

        int leftOf(int e) {
            int left = 0;
            for (int b = 0; b < camp.boyCount; b++) {
                left += onBoy(e, b);
            }
            return left;
        }

        int allLoads() {
            int all = 0;
            for (int b = 0; b < camp.boyCount; b++) {
                all += loads[b];
            }
            return all;
        }

        /** The event of which most is on him, of like ones the first; NONE if nothing is. */
        int heaviest(int b) {
            int found = NONE;
            int most = 0;
            for (int e = 0; e < camp.eventCount; e++) {
                if (onBoy(e, b) > most) {
                    most = onBoy(e, b);
                    found = e;
                }
            }
            return found;
        }

        int whyNotSpeak(int b, int e) {
            if (onBoy(e, b) == 0) {
                return 1;
            }
            if (isWet()) {
                return 2;
            }
            if (heat == 0) {
                return 3;
            }
            return isHushed(b) ? 4 : 0;
        }

        int tellEvent(int b, int e) {
            int why = whyNotSpeak(b, e);
            if (why == 0) {
                int kind = camp.kinds[e];
                int gone = Math.min(wouldTake(kind), onBoy(e, b));
                putOn(e, b, -gone);
                ashHeaps[kind] += gone;
                hush(b);
            }
            return why;
        }

        int lieAbout(int b, int e) {
            int why = whyNotSpeak(b, e);
            if (why == 0) {
                putOn(e, b, Math.min(2, ON_MOST - onBoy(e, b)));
                green++;
                hush(b);
            }
            return why;
        }

        private void hush(int b) {
            heat--;
            hushed |= 1 << b;
        }

        int giveSome(int b, int e, int c, int n) {
            if (b == c) {
                return 1;
            }
            if (onBoy(e, b) < n) {
                return 2;
            }
            if (loads[c] + n > camp.bears[c]) {
                return 3;
            }
            putOn(e, b, -n);
            putOn(e, c, n);
            return 0;
        }

        int putLogOn() {
            if (logPile == 0) {
                return 1;
            }
            if (heat == HEAT_MOST) {
                return 2;
            }
            logPile--;
            heat = Math.min(heat + 4, HEAT_MOST);
            return 0;
        }

        int rakeAshes() {
            int all = 0;
            for (int kind = 0; kind < KINDS; kind++) {
                all += ashHeaps[kind];
            }
            if (all == 0) {
                return 1;
            }
            Arrays.fill(ashHeaps, 0);
            return 0;
        }

        int daysLeft() {
            return DAY_MOST - day;
        }

        /** How many of the days went by. */
        int passDays(int n) {
            int gone = Math.min(n, daysLeft());
            for (int i = 0; i < gone; i++) {
                passDay();
            }
            return gone;
        }

        private void passDay() {
            for (int b = 0; b < camp.boyCount; b++) {
                if (isOver(b)) {
                    wept[b]++;
                }
            }
            heat = Math.min(heat / 2 + camp.turf, HEAT_MOST);
            day++;
            hushed = 0;
        }

        /** Lives on till he is not over. */
        int daysToCalm(int b) {
            int left = daysLeft();
            for (int gone = 0; gone <= left; gone++) {
                if (!isOver(b)) {
                    return gone;
                }
                if (gone < left) {
                    allWhoAreOverTell();
                    passDay();
                }
            }
            return NONE;
        }

        private void allWhoAreOverTell() {
            for (int b = 0; b < camp.boyCount; b++) {
                int e = isOver(b) ? heaviest(b) : NONE;
                if (e != NONE) {
                    tellEvent(b, e);
                }
            }
        }

        /** How many of the days went by. */
        int drawDays(int n, Draws draws) {
            int gone = Math.min(n, daysLeft());
            for (int i = 0; i < gone; i++) {
                if (draws.draw(4) == 0) {
                    putLogOn();
                }
                for (int b = 0; b < camp.boyCount; b++) {
                    drawAct(b, draws);
                }
                passDay();
            }
            return gone;
        }

        private void drawAct(int b, Draws draws) {
            int act = draws.draw(4);
            if (act == 3 || camp.eventCount == 0) {
                return;
            }
            int e = draws.draw(camp.eventCount);
            if (act == 2) {
                lieAbout(b, e);
            } else {
                tellEvent(b, e);
            }
        }
    }

    private static final class Draws {
        private int x;

        void start(int seed) {
            x = seed;
        }

        int draw(int n) {
            x = x * 1103515245 + 12345;
            return n > 0 ? (x >>> 8) % n : 0;
        }
    }

    /** The latest acts that can be undone, as what was so ahead of each, in a ring. */
    private static final class History {
        private final State[] ring = new State[KEPT_ACTS];
        private int kept;
        private int next;

        History(Camp camp) {
            for (int i = 0; i < KEPT_ACTS; i++) {
                ring[i] = new State(camp);
            }
        }

        void clear() {
            kept = 0;
        }

        void keep(State ahead) {
            ring[next].copyFrom(ahead);
            next = (next + 1) % KEPT_ACTS;
            kept = Math.min(kept + 1, KEPT_ACTS);
        }

        int takeBack(State state) {
            if (kept == 0) {
                return NONE;
            }
            kept--;
            next = (next + KEPT_ACTS - 1) % KEPT_ACTS;
            state.copyFrom(ring[next]);
            return kept;
        }
    }

    /** One place where a camp, its state and its sentence are kept. */
    private static final class Image {
        private final Camp camp = new Camp();
        private final State state = new State(camp);
        private final Sentence sentence = new Sentence();
        boolean kept;

        void keep(Camp nowCamp, State nowState, Sentence nowSentence) {
            camp.copyFrom(nowCamp);
            state.copyFrom(nowState);
            sentence.copyFrom(nowSentence);
            kept = true;
        }

        void giveBack(Camp nowCamp, State nowState, Sentence nowSentence) {
            nowCamp.copyFrom(camp);
            nowState.copyFrom(state);
            nowSentence.copyFrom(sentence);
        }
    }

    /** The lines of the latest book, and what was found of it. */
    private static final class Book {
        private static final int TELLS = 0;
        private static final int LIES = 10;
        private static final int GIVES = 20;
        private static final int LOG = 30;
        private static final int RAKE = 40;
        private static final int DAY = 50;

        /** What is done, as the tens of why it can be wrong. */
        private final int[] acts = new int[LINES];
        private final int[] doers = new int[LINES];
        private final int[] events = new int[LINES];
        private final int[] others = new int[LINES];
        private final int[] numbers = new int[LINES];
        private int lineCount;
        boolean judged;
        int why;
        int linesDone;
        int dayThen;
        int overThen;

        boolean readText(Tape tape, Camp camp) {
            lineCount = 0;
            for (int i = 0; i <= LINES; i++) {
                if (tape.hasEnded()) {
                    return true;
                }
                if (!readLine(tape, camp) || !tape.passSign(';')) {
                    return false;
                }
                lineCount++;
            }
            return tape.fail(TOO_MANY);
        }

        private boolean readLine(Tape tape, Camp camp) {
            boolean plain = tape.isWord(Word.LOG) || tape.isWord(Word.RAKE) || tape.isWord(Word.DAY);
            if (!plain && tape.sort != Tape.NAME) {
                return tape.fail(CAN_NOT_COME);
            }
            if (!plain && camp.boyNamed(tape.letters) == NONE) {
                return tape.fail(BAD_NAME);
            }
            if (lineCount >= LINES) {
                return tape.fail(TOO_MANY);
            }
            return plain ? readPlain(tape) : readDeed(tape, camp);
        }

        private boolean readPlain(Tape tape) {
            Word first = tape.word;
            tape.next();
            if (first == Word.DAY) {
                acts[lineCount] = DAY;
                numbers[lineCount] = tape.passNumber(1, STRIDE_MOST);
                return numbers[lineCount] != NONE;
            }
            acts[lineCount] = first == Word.LOG ? LOG : RAKE;
            return true;
        }

        private boolean readDeed(Tape tape, Camp camp) {
            doers[lineCount] = tape.passNamed(camp.boyNamed(tape.letters));
            if (tape.isWord(Word.TELLS)) {
                acts[lineCount] = TELLS;
            } else if (tape.isWord(Word.LIES)) {
                acts[lineCount] = LIES;
            } else if (tape.isWord(Word.GIVES)) {
                acts[lineCount] = GIVES;
            } else {
                return tape.fail(CAN_NOT_COME);
            }
            tape.next();
            events[lineCount] = tape.passNamed(camp.eventNamed(tape.letters));
            if (events[lineCount] == NONE) {
                return false;
            }
            return acts[lineCount] != GIVES || readGift(tape, camp);
        }

        private boolean readGift(Tape tape, Camp camp) {
            others[lineCount] = tape.passNamed(camp.boyNamed(tape.letters));
            if (others[lineCount] == NONE) {
                return false;
            }
            numbers[lineCount] = tape.passNumber(1, GIFT_MOST);
            return numbers[lineCount] != NONE;
        }

        /** Lives the lines as far as they are not wrong: the line that is, or NONE. */
        int judge(State state) {
            why = 0;
            linesDone = 0;
            for (int line = 0; line < lineCount && why == 0; line++) {
                int refused = liveLine(state, line);
                if (refused == 0) {
                    linesDone++;
                } else {
                    why = acts[line] + refused;
                }
            }
            judged = true;
            dayThen = state.day;
            overThen = state.overBits();
            return why == 0 ? NONE : linesDone;
        }

        private int liveLine(State state, int line) {
            switch (acts[line]) {
                case TELLS: return state.tellEvent(doers[line], events[line]);
                case LIES: return state.lieAbout(doers[line], events[line]);
                case GIVES: return state.giveSome(doers[line], events[line], others[line], numbers[line]);
                case LOG: return state.putLogOn();
                case RAKE: return state.rakeAshes();
                default: return liveDays(state, numbers[line]);
            }
        }

        private static int liveDays(State state, int n) {
            if (n > state.daysLeft()) {
                return 1;
            }
            state.passDays(n);
            return 0;
        }
    }

    /** A condition on boys, kept as steps of a stack machine over sets of boys as bits. */
    private static final class Sentence {
        /** Each one but a bracket is a step; so is each 'and' and 'or' between two. */
        private static final int STEPS = 2 * ONES;

        private final Word[] steps = new Word[STEPS];
        private final int[] signs = new int[STEPS];
        private final int[] numbers = new int[STEPS];
        private final int[] stack = new int[STEPS];
        private int stepCount;
        int ones;
        boolean present;

        void clear() {
            stepCount = 0;
            ones = 0;
            present = false;
        }

        void copyFrom(Sentence other) {
            for (int i = 0; i < STEPS; i++) {
                steps[i] = other.steps[i];
            }
            System.arraycopy(other.signs, 0, signs, 0, STEPS);
            System.arraycopy(other.numbers, 0, numbers, 0, STEPS);
            stepCount = other.stepCount;
            ones = other.ones;
            present = other.present;
        }

        boolean readText(Tape tape, Camp camp) {
            clear();
            if (!readCond(tape, camp, 1)) {
                return false;
            }
            if (!tape.hasEnded()) {
                return tape.fail(CAN_NOT_COME);
            }
            present = true;
            return true;
        }

        private boolean readCond(Tape tape, Camp camp, int depth) {
            if (!readAll(tape, camp, depth)) {
                return false;
            }
            for (int i = 0; i < ONES && tape.isWord(Word.OR); i++) {
                tape.next();
                if (!readAll(tape, camp, depth)) {
                    return false;
                }
                addStep(Word.OR, 0, 0);
            }
            return true;
        }

        private boolean readAll(Tape tape, Camp camp, int depth) {
            if (!readOne(tape, camp, depth)) {
                return false;
            }
            for (int i = 0; i < ONES && tape.isWord(Word.AND); i++) {
                tape.next();
                if (!readOne(tape, camp, depth)) {
                    return false;
                }
                addStep(Word.AND, 0, 0);
            }
            return true;
        }

        private boolean readOne(Tape tape, Camp camp, int depth) {
            if (!beginsOne(tape)) {
                return tape.fail(CAN_NOT_COME);
            }
            if (ones >= ONES || depth > WITHIN) {
                return tape.fail(TOO_MANY);
            }
            ones++;
            Word first = tape.word;
            tape.next();
            if (first == null) {
                return readCond(tape, camp, depth + 1) && tape.passSign(')');
            }
            if (first == Word.NOT) {
                boolean inner = readOne(tape, camp, depth + 1);
                addStep(Word.NOT, 0, 0);
                return inner;
            }
            if (isPlain(first)) {
                addStep(first, 0, 0);
                return true;
            }
            if (first == Word.HAS || first == Word.HIS) {
                int e = tape.passNamed(camp.eventNamed(tape.letters));
                addStep(first, 0, e);
                return e != NONE;
            }
            return readComparison(tape, first);
        }

        private boolean readComparison(Tape tape, Word first) {
            if (!tape.isSign('<') && !tape.isSign('=') && !tape.isSign('>')) {
                return tape.fail(CAN_NOT_COME);
            }
            int sign = tape.value;
            tape.next();
            if (tape.sort != Tape.NUMBER) {
                return tape.fail(CAN_NOT_COME);
            }
            addStep(first, sign, tape.value);
            tape.next();
            return true;
        }

        private static boolean beginsOne(Tape tape) {
            Word word = tape.word;
            return tape.isSign('(') || word == Word.NOT || isPlain(word) || word == Word.HAS || word == Word.HIS
                || word == Word.LOAD || word == Word.BEARS || word == Word.TEARS || word == Word.NUMBER;
        }

        private static boolean isPlain(Word word) {
            return word == Word.OVER || word == Word.HUSHED || word == Word.LIGHT;
        }

        private void addStep(Word word, int sign, int number) {
            if (stepCount < STEPS) {
                steps[stepCount] = word;
                signs[stepCount] = sign;
                numbers[stepCount] = number;
                stepCount++;
            }
        }

        /** The boys of whom it may be said, as bits. */
        int boysOf(State state) {
            int everyone = (1 << state.camp.boyCount) - 1;
            int height = 0;
            for (int i = 0; i < stepCount; i++) {
                Word word = steps[i];
                if (word == Word.NOT && height >= 1) {
                    stack[height - 1] = everyone & ~stack[height - 1];
                } else if ((word == Word.AND || word == Word.OR) && height >= 2) {
                    height--;
                    int right = stack[height];
                    stack[height - 1] = word == Word.AND ? stack[height - 1] & right : stack[height - 1] | right;
                } else if (height < STEPS) {
                    stack[height] = boysOfStep(state, i);
                    height++;
                }
            }
            return height == 1 ? stack[0] : 0;
        }

        private int boysOfStep(State state, int step) {
            int bits = 0;
            for (int b = 0; b < state.camp.boyCount; b++) {
                if (holds(state, step, b)) {
                    bits |= 1 << b;
                }
            }
            return bits;
        }

        private boolean holds(State state, int step, int b) {
            Word word = steps[step];
            int number = numbers[step];
            if (word == Word.OVER) {
                return state.isOver(b);
            }
            if (word == Word.HUSHED) {
                return state.isHushed(b);
            }
            if (word == Word.LIGHT) {
                return state.loads[b] == 0;
            }
            if (word == Word.HAS) {
                return state.camp.hasEvent(number) && state.onBoy(number, b) > 0;
            }
            if (word == Word.HIS) {
                return state.camp.hasEvent(number) && state.camp.owners[number] == b;
            }
            int mine = measure(state, word, b);
            if (signs[step] == '<') {
                return mine < number;
            }
            return signs[step] == '>' ? mine > number : mine == number;
        }

        private static int measure(State state, Word word, int b) {
            if (word == Word.LOAD) {
                return state.loads[b];
            }
            if (word == Word.BEARS) {
                return state.camp.bears[b];
            }
            return word == Word.TEARS ? state.wept[b] : b;
        }
    }

    /** What is best, least or fewest as things are now, and what the latest calls found. */
    private static final class Advice {
        private static final int SETS = 1 << BOYS;
        /** Above any load that fits in a tent, so that a tent's number and load go in one int. */
        private static final int TENT = 1024;

        final int[] row = new int[BOYS];
        int rowLength;
        final int[] gets = new int[BOYS];
        /** The boys of the latest spread; the camp may have others by now. */
        int getters;
        int sayingBits = NONE;
        private final int[] heaviest = new int[BOYS];
        private final int[] bySet = new int[SETS];

        int findBest(Camp camp, State state) {
            int able = findTellers(camp, state);
            for (int set = SETS - 1; set >= 0; set--) {
                bySet[set] = 0;
                for (int b = 0; b < camp.boyCount; b++) {
                    if ((able & ~set & 1 << b) != 0) {
                        bySet[set] = Math.max(bySet[set], takenBy(camp, state, b, set) + bySet[set | 1 << b]);
                    }
                }
            }
            layRow(camp, state, able);
            return bySet[0];
        }

        private int findTellers(Camp camp, State state) {
            int able = 0;
            for (int b = 0; b < camp.boyCount; b++) {
                int e = state.heaviest(b);
                heaviest[b] = e;
                if (e != NONE && state.whyNotSpeak(b, e) == 0) {
                    able |= 1 << b;
                }
            }
            return able;
        }

        /** What the fire takes of a boy who tells behind a set of others. */
        private int takenBy(Camp camp, State state, int b, int set) {
            int e = heaviest[b];
            int heat = state.heat - Integer.bitCount(set);
            if (e == NONE || heat <= 0) {
                return 0;
            }
            return Math.min(state.onBoy(e, b), camp.taken[camp.kinds[e]] + heat / 5);
        }

        private void layRow(Camp camp, State state, int able) {
            int set = 0;
            rowLength = Integer.bitCount(able);
            for (int k = 0; k < rowLength; k++) {
                for (int b = 0; b < camp.boyCount; b++) {
                    boolean free = (able & ~set & 1 << b) != 0;
                    if (free && takenBy(camp, state, b, set) + bySet[set | 1 << b] == bySet[set]) {
                        row[k] = b;
                        set |= 1 << b;
                        break;
                    }
                }
            }
        }

        int findSpread(Camp camp, State state) {
            int over = 0;
            int room = 0;
            for (int b = 0; b < camp.boyCount; b++) {
                int less = camp.bears[b] - state.loads[b];
                if (less < 0) {
                    over -= less;
                } else {
                    room += less;
                }
            }
            if (over > room) {
                return NONE;
            }
            Arrays.fill(gets, 0);
            int left = over;
            for (int b = 0; b < camp.boyCount; b++) {
                if (!state.isOver(b)) {
                    gets[b] = Math.min(left, camp.bears[b] - state.loads[b]);
                    left -= gets[b];
                }
            }
            getters = camp.boyCount;
            return over;
        }

        int findSaying(Camp camp, State state, int b, int n) {
            int possible = state.eventBits(b);
            int fewest = EVENTS + 1;
            int found = 0;
            for (int set = 1; set < 1 << camp.eventCount; set++) {
                int size = Integer.bitCount(set);
                if ((set & ~possible) == 0 && size < fewest && weightOf(camp, state, b, set) == n) {
                    fewest = size;
                    found = set;
                }
            }
            if (found == 0) {
                return NONE;
            }
            sayingBits = found;
            return fewest;
        }

        private static int weightOf(Camp camp, State state, int b, int set) {
            int weight = 0;
            for (int e = 0; e < camp.eventCount; e++) {
                if ((set >> e & 1) == 1) {
                    weight += state.onBoy(e, b);
                }
            }
            return weight;
        }

        /** For each set of boys the fewest tents and, of these, the least load in the last one. */
        int countTents(Camp camp, State state, int n) {
            for (int b = 0; b < camp.boyCount; b++) {
                if (state.loads[b] > n) {
                    return NONE;
                }
            }
            int everyone = (1 << camp.boyCount) - 1;
            bySet[0] = 0;
            for (int set = 1; set <= everyone; set++) {
                bySet[set] = TENT * TENT;
                for (int b = 0; b < camp.boyCount; b++) {
                    if ((set >> b & 1) == 1) {
                        bySet[set] = Math.min(bySet[set], withOneMore(bySet[set & ~(1 << b)], state.loads[b], n));
                    }
                }
            }
            return bySet[everyone] / TENT;
        }

        private static int withOneMore(int tents, int load, int n) {
            boolean fits = tents >= TENT && tents % TENT + load <= n;
            return fits ? tents + load : (tents / TENT + 1) * TENT + load;
        }
    }

    /** By which numbers of 'takes' the fire can have taken what the tape tells. */
    private static final class Laws {
        private static final int NUMBERS = 10;
        private static final int WATCH_HEAT = 10;
        private static final int WATCH_MOST = 40;

        private int latest;

        int findLaws(Tape tape) {
            int bytes = tape.length;
            if (bytes < 3 || bytes > 18 || bytes % 3 != 0) {
                return NONE;
            }
            int bits = (1 << NUMBERS) - 1;
            for (int i = 0; i + 2 < bytes; i += 3) {
                int heat = tape.text[i] & 255;
                if (heat < 1 || heat > HEAT_MOST) {
                    return NONE;
                }
                for (int number = 0; number < NUMBERS; number++) {
                    if (leftBehind(number, heat, tape.text[i + 1] & 255) != (tape.text[i + 2] & 255)) {
                        bits &= ~(1 << number);
                    }
                }
            }
            if (bits > 0) {
                latest = bits;
            }
            return bits;
        }

        private static int leftBehind(int number, int heat, int ahead) {
            return Math.max(0, ahead - number - heat / 5);
        }

        int findWatch() {
            if (latest == 0) {
                return NONE;
            }
            int found = 1;
            int least = NUMBERS + 1;
            for (int ahead = 1; ahead <= WATCH_MOST; ahead++) {
                int greatest = mostAlike(ahead);
                if (greatest < least) {
                    least = greatest;
                    found = ahead;
                }
            }
            return found;
        }

        /** The greatest number of laws that leave the same behind. */
        private int mostAlike(int ahead) {
            int most = 0;
            for (int one = 0; one < NUMBERS; one++) {
                int alike = 0;
                for (int other = 0; other < NUMBERS; other++) {
                    boolean same = leftBehind(one, WATCH_HEAT, ahead) == leftBehind(other, WATCH_HEAT, ahead);
                    if (same && (latest >> one & 1) == 1 && (latest >> other & 1) == 1) {
                        alike++;
                    }
                }
                most = Math.max(most, alike);
            }
            return most;
        }
    }
}
