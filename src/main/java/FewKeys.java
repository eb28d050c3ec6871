import java.util.Arrays;

/** A reckoner with few keys left; what each call promises is told in DOC.md. */
public final class FewKeys {
    public static final int NONE = -1, UNKNOWN = -1000000001, OUTSIDE = -1000000002, NOT = -1000000003, FULL = -1000000004;

    private static final int FIGURE = 0, PLUS = 1, LESS = 2, TIMES = 3, IS = 4, CLEAR = 5, NOW = 6, STUCK = 7;
    private static final int ROUND = 0, STOP = 1;
    private static final int MOST_NUMBERS = 100, MOST_KEYS = 8, MOST_TARGETS = 6, MOST_ENTRIES = 40, MOST_BYTES = 400;
    private static final int MOST_STROKES_BACK = 8, MOST_TRIALS = 4, MOST_TURNS = 6, MOST_DRAWS = 999, MOST_PRICE = 999;
    private static final int NEVER_COUNTS = 99;

    // A STATE is one int: SHOWN in bits 0 .. 6, HELD in 7 .. 13, the sign that WAITS in 14 and 15, TYPED in 16.
    private static final int AT_FIRST = 0, LOW = 127, HELD_AT = 7, SIGN_AT = 14, TYPED_BIT = 1 << 16;
    private static final int SEEN_WORDS = (1 << 17) / 64;
    // SHOWN and TYPED beside nothing that WAITS, or beside one of three signs with its number HELD.
    private static final int MOST_STATES = 2 * MOST_NUMBERS * (1 + 3 * MOST_NUMBERS);
    private static final int MOST_STATES_SHOWING = 2 * (1 + 3 * MOST_NUMBERS);

    private final Text text = new Text();
    private Reckoner reckoner = new Reckoner();
    private Reckoner draft = new Reckoner();
    private final Present present = new Present();
    private final Present imageZero = new Present();
    private final Present imageOne = new Present();
    private final Book book = new Book();
    private final Rows rows = new Rows();
    private final Steps steps = new Steps(rows);
    private final Costs costs = new Costs(rows);
    private final Chain chain = new Chain(rows);
    private final Past past = new Past(rows);
    private final Trials trials = new Trials();
    private final Game contest = new Game();

    public FewKeys() {
    }

    // ---- the reckoner

    public int feed(int n, long bytes) {
        if (n < 1 || n > 8) {
            return OUTSIDE;
        }
        if (text.size + n > MOST_BYTES) {
            return FULL;
        }
        for (int i = n - 1; i >= 0; i--) {
            text.append((int) (bytes >>> (8 * i)) & 255);
        }
        return text.size;
    }

    public int reckoner() {
        boolean good = text.read(draft);
        text.size = 0;
        if (!good) {
            return -10 - text.faultKind;
        }
        Reckoner old = reckoner;
        reckoner = draft;
        draft = old;
        present.state = AT_FIRST;
        present.spent = 0;
        present.targetCount = 0;
        book.size = 0;
        imageZero.kept = false;
        imageOne.kept = false;
        stateChanged();
        return reckoner.numbers;
    }

    public int fault() {
        return text.faultAt;
    }

    public int told(int what) {
        switch (what) {
            case 0: return reckoner.dialKind;
            case 1: return reckoner.base;
            case 2: return reckoner.figures;
            case 3: return reckoner.numbers;
            case 4: return reckoner.keys;
            case 5: return text.size;
            case 6: return shownIn(present.state);
            case 7: return signIn(present.state);
            case 8: return heldIn(present.state);
            case 9: return isTyped(present.state) ? 1 : 0;
            case 10: return present.spent;
            case 11: return present.targetCount;
            case 12: return book.size;
            default: return OUTSIDE;
        }
    }

    public int key(int k, int what) {
        if (!isKey(k)) {
            return UNKNOWN;
        }
        switch (what) {
            case 0: return at(reckoner.kind, k);
            case 1: return at(reckoner.cost, k);
            case 2: return at(reckoner.first, k);
            case 3: return at(reckoner.second, k);
            default: return OUTSIDE;
        }
    }

    public int strike(int k) {
        if (!isKey(k)) {
            return UNKNOWN;
        }
        present.strikeOnce(reckoner, k);
        stateChanged();
        return shownIn(present.state);
    }

    public int begin() {
        int was = shownIn(present.state);
        present.state = AT_FIRST;
        stateChanged();
        return was;
    }

    // ---- strokes to a number

    public int fewest(int v) {
        if (!isOnDial(v)) {
            return OUTSIDE;
        }
        steps.learn(reckoner, present.state);
        return steps.to(v);
    }

    public int way(int v, int i) {
        if (!isOnDial(v)) {
            return OUTSIDE;
        }
        steps.learnWays(reckoner, present.state);
        return steps.keyOfWay(v, i);
    }

    public int least(int v) {
        if (!isOnDial(v)) {
            return OUTSIDE;
        }
        costs.learn(reckoner, present.state);
        return at(costs.least, v);
    }

    public int never(int i) {
        steps.learn(reckoner, present.state);
        int found = 0;
        for (int v = 0; v < reckoner.numbers; v++) {
            if (steps.to(v) == NONE) {
                if (found == i) {
                    return v;
                }
                found++;
            }
        }
        return i == NONE ? found : NONE;
    }

    public int farthest(int what) {
        if (what < 0 || what > 1) {
            return OUTSIDE;
        }
        if (reckoner.numbers == 0) {
            return NOT;
        }
        steps.learn(reckoner, present.state);
        int best = 0;
        for (int v = 1; v < reckoner.numbers; v++) {
            if (steps.to(v) > steps.to(best)) {
                best = v;
            }
        }
        return what == 0 ? best : steps.to(best);
    }

    // ---- targets

    public int target(int v) {
        if (!isOnDial(v)) {
            return OUTSIDE;
        }
        if (present.targetCount >= MOST_TARGETS) {
            return FULL;
        }
        put(present.targets, present.targetCount, v);
        present.targetCount++;
        steps.forgetMore();
        return present.targetCount;
    }

    public int targetAt(int i) {
        if (i < 0 || i >= present.targetCount) {
            return UNKNOWN;
        }
        return at(present.targets, i);
    }

    public int forget() {
        int had = present.targetCount;
        present.targetCount = 0;
        steps.forgetMore();
        return had;
    }

    public int more(int what) {
        if (what < 0 || what > 2) {
            return OUTSIDE;
        }
        if (reckoner.numbers == 0) {
            return NOT;
        }
        steps.learnMore(reckoner, present);
        if (what == 2) {
            return steps.moreTogether;
        }
        return what == 0 ? steps.moreKind : steps.moreFigure;
    }

    public int list() {
        return chain.fewestForAll(reckoner, present);
    }

    public int quick(int p, int e) {
        if (p < 0 || p > MOST_PRICE || e < 0 || e > MOST_PRICE) {
            return OUTSIDE;
        }
        steps.learn(reckoner, present.state);
        int best = NONE;
        for (int v = 0; v < reckoner.numbers; v++) {
            if (Math.abs(v - p) <= e && steps.to(v) != NONE && isQuicker(v, best, p)) {
                best = v;
            }
        }
        return best;
    }

    private boolean isQuicker(int v, int best, int p) {
        if (best == NONE || steps.to(v) != steps.to(best)) {
            return best == NONE || steps.to(v) < steps.to(best);
        }
        return Math.abs(v - p) < Math.abs(best - p);
    }

    // ---- what was struck

    public int struck(int n, int v, int what) {
        if (n < 0 || n > MOST_STROKES_BACK || !isOnDial(v) || what < 0 || what > 1) {
            return OUTSIDE;
        }
        past.count(reckoner, present.state, n, v);
        return what == 0 ? past.total : past.common;
    }

    public int lost(int set) {
        if ((set & ~((1 << reckoner.keys) - 1)) != 0) {
            return UNKNOWN;
        }
        if (Integer.bitCount(set) < 2) {
            return OUTSIDE;
        }
        return trials.fewestToTell(reckoner, present.state, set);
    }

    public int game(int v, int n, int what) {
        if (!isOnDial(v) || n < 0 || n > MOST_TURNS || what < 0 || what > 1) {
            return OUTSIDE;
        }
        contest.play(reckoner, present.state, v, n);
        return what == 0 ? contest.winner : contest.bestKey;
    }

    // ---- books, draws, images

    public int write(int k, int shown) {
        if (!isKey(k)) {
            return UNKNOWN;
        }
        if (!isOnDial(shown)) {
            return OUTSIDE;
        }
        if (book.size >= MOST_ENTRIES) {
            return FULL;
        }
        book.append(k, shown);
        return book.size;
    }

    public int tear() {
        int had = book.size;
        book.size = 0;
        return had;
    }

    public int judge() {
        return book.firstWrong(reckoner, present.state);
    }

    public int drift(int n) {
        if (n < 1 || n > MOST_DRAWS) {
            return OUTSIDE;
        }
        if (reckoner.keys == 0) {
            return NOT;
        }
        for (int i = 0; i < n; i++) {
            present.strikeOnce(reckoner, present.draw(reckoner.keys));
        }
        stateChanged();
        return shownIn(present.state);
    }

    public int seed(int v) {
        if (v < 0) {
            return OUTSIDE;
        }
        int was = present.seed;
        present.seed = v;
        return was;
    }

    public int keep(int i) {
        Present image = imageAt(i);
        if (image == null) {
            return UNKNOWN;
        }
        image.become(present);
        image.kept = true;
        return 1;
    }

    public int goBack(int i) {
        Present image = imageAt(i);
        if (image == null) {
            return UNKNOWN;
        }
        if (!image.kept) {
            return NOT;
        }
        present.become(image);
        stateChanged();
        return 1;
    }

    // ---- what several calls need

    private boolean isKey(int k) {
        return k >= 0 && k < reckoner.keys;
    }

    private boolean isOnDial(int v) {
        return v >= 0 && v < reckoner.numbers;
    }

    private Present imageAt(int i) {
        if (i == 0) {
            return imageZero;
        }
        return i == 1 ? imageOne : null;
    }

    private void stateChanged() {
        steps.forgetSteps();
        steps.forgetMore();
        costs.known = false;
    }

    private static int shownIn(int state) {
        return state & LOW;
    }

    private static int heldIn(int state) {
        return (state >> HELD_AT) & LOW;
    }

    private static int signIn(int state) {
        return (state >> SIGN_AT) & 3;
    }

    private static boolean isTyped(int state) {
        return (state & TYPED_BIT) != 0;
    }

    private static int at(int[] row, int i) {
        return i >= 0 && i < row.length ? row[i] : NONE;
    }

    private static void put(int[] row, int i, int value) {
        if (i >= 0 && i < row.length) {
            row[i] = value;
        }
    }

    /** THE TEXT, and how it is read with its first FAULT. */
    private static final class Text {
        private static final int CANNOT_STAND = 1, BAD_NUMBER = 2, TOO_MANY = 3;

        private final int[] bytes = new int[MOST_BYTES];
        private int size = 0;
        private int faultKind = 0;
        private int faultAt = NONE;
        private int next = 0;
        private int wordAt = 0;
        private int numberAt = 0;
        private int number = 0;

        void append(int b) {
            if (size >= 0 && size < bytes.length) {
                bytes[size] = b;
                size++;
            }
        }

        boolean read(Reckoner into) {
            into.empty();
            faultKind = 0;
            faultAt = NONE;
            next = 0;
            skipBlanks();
            if (next >= size) {
                return true;
            }
            if (!readDial(into)) {
                return false;
            }
            for (int i = 0; i <= MOST_KEYS; i++) {
                skipBlanks();
                if (next >= size) {
                    return true;
                }
                if (!readKey(into)) {
                    return false;
                }
            }
            return false;
        }

        private boolean readDial(Reckoner into) {
            takeWord();
            if (!wordIs("dial")) {
                return refuse(CANNOT_STAND, wordAt);
            }
            takeWord();
            int kind = wordIs("round") ? ROUND : wordIs("stop") ? STOP : NONE;
            if (kind == NONE) {
                return refuse(CANNOT_STAND, wordAt);
            }
            if (!takeNumber(2, 10)) {
                return false;
            }
            int base = number;
            if (!takeNumber(1, 6)) {
                return false;
            }
            int figures = number;
            int numbers = 1;
            for (int i = 0; i < figures; i++) {
                numbers *= base;
            }
            if (numbers > MOST_NUMBERS) {
                return refuse(BAD_NUMBER, numberAt);
            }
            into.setDial(kind, base, figures, numbers);
            return takeEnd();
        }

        private boolean readKey(Reckoner into) {
            takeWord();
            int kind = kindOfWord();
            if (kind == NONE && !wordIs("dial")) {
                return refuse(CANNOT_STAND, wordAt);
            }
            if (kind == NONE || into.keys >= MOST_KEYS) {
                return refuse(TOO_MANY, wordAt);
            }
            int first = NONE;
            int second = NONE;
            if (kind == FIGURE || kind == STUCK) {
                if (!takeNumber(0, into.base - 1)) {
                    return false;
                }
                first = number;
            }
            if (kind == STUCK) {
                if (!takeNumber(0, into.base - 1)) {
                    return false;
                }
                second = number;
            }
            if (kind == NOW) {
                takeWord();
                second = kindOfWord();
                if (second < PLUS || second > TIMES) {
                    return refuse(CANNOT_STAND, wordAt);
                }
                if (!takeNumber(0, into.numbers - 1)) {
                    return false;
                }
                first = number;
            }
            if (!takeNumber(1, 99) || !takeEnd()) {
                return false;
            }
            into.addKey(kind, number, first, second);
            return true;
        }

        private boolean refuse(int kind, int where) {
            faultKind = kind;
            faultAt = where;
            return false;
        }

        private void skipBlanks() {
            while (next < size && at(bytes, next) == ' ') {
                next++;
            }
        }

        private boolean isBetween(int i, int low, int high) {
            return i < size && at(bytes, i) >= low && at(bytes, i) <= high;
        }

        /** The word from wordAt to next; an empty one where something else, or the end, stands. */
        private void takeWord() {
            skipBlanks();
            wordAt = next;
            while (next < size && isBetween(next, 'a', 'z')) {
                next++;
            }
        }

        private boolean wordIs(String word) {
            if (next - wordAt != word.length()) {
                return false;
            }
            for (int i = 0; i < word.length(); i++) {
                if (at(bytes, wordAt + i) != word.charAt(i)) {
                    return false;
                }
            }
            return true;
        }

        private int kindOfWord() {
            if (wordIs("figure")) {
                return FIGURE;
            }
            if (wordIs("plus")) {
                return PLUS;
            }
            if (wordIs("less")) {
                return LESS;
            }
            if (wordIs("times")) {
                return TIMES;
            }
            if (wordIs("is")) {
                return IS;
            }
            if (wordIs("clear")) {
                return CLEAR;
            }
            if (wordIs("now")) {
                return NOW;
            }
            return wordIs("stuck") ? STUCK : NONE;
        }

        private boolean takeNumber(int low, int high) {
            skipBlanks();
            numberAt = next;
            number = 0;
            while (next < size && isBetween(next, '0', '9')) {
                if (next - numberAt < 3) {
                    number = number * 10 + at(bytes, next) - '0';
                }
                next++;
            }
            if (next == numberAt) {
                return refuse(CANNOT_STAND, next);
            }
            if (next - numberAt > 3 || number < low || number > high) {
                return refuse(BAD_NUMBER, numberAt);
            }
            return true;
        }

        private boolean takeEnd() {
            skipBlanks();
            if (!isBetween(next, ';', ';')) {
                return refuse(CANNOT_STAND, next);
            }
            next++;
            return true;
        }
    }

    /** The DIAL and the KEYS: what a STROKE makes of a STATE. */
    private static final class Reckoner {
        // One beyond those of a text, for the KEY MORE that is tried.
        private static final int ROOM = MOST_KEYS + 1;

        private int dialKind = NONE;
        private int base = 0;
        private int figures = 0;
        private int numbers = 0;
        private int keys = 0;
        private final int[] kind = new int[ROOM];
        private final int[] cost = new int[ROOM];
        private final int[] first = new int[ROOM];
        private final int[] second = new int[ROOM];

        void empty() {
            setDial(NONE, 0, 0, 0);
            keys = 0;
        }

        void setDial(int newKind, int newBase, int newFigures, int newNumbers) {
            dialKind = newKind;
            base = newBase;
            figures = newFigures;
            numbers = newNumbers;
        }

        void addKey(int newKind, int newCost, int newFirst, int newSecond) {
            if (keys >= 0 && keys < ROOM) {
                put(kind, keys, newKind);
                put(cost, keys, newCost);
                put(first, keys, newFirst);
                put(second, keys, newSecond);
                keys++;
            }
        }

        void dropKey() {
            if (keys > 0) {
                keys--;
            }
        }

        boolean hasKey(int wantedKind, int wantedFirst) {
            for (int k = 0; k < keys; k++) {
                if (at(kind, k) == wantedKind && at(first, k) == wantedFirst) {
                    return true;
                }
            }
            return false;
        }

        int afterStroke(int state, int k) {
            if (k < 0 || k >= keys || k >= ROOM) {
                return state;
            }
            switch (kind[k]) {
                case FIGURE:
                    return afterFigure(state, first[k]);
                case PLUS:
                case LESS:
                case TIMES:
                    return afterSign(state, kind[k]);
                case IS:
                    return signIn(state) == 0 ? shownIn(state) : reckon(heldIn(state), signIn(state), shownIn(state));
                case CLEAR:
                    return AT_FIRST;
                case NOW:
                    return (state & ~(LOW | TYPED_BIT)) | reckon(shownIn(state), second[k], first[k]);
                case STUCK:
                    return afterFigure(afterFigure(state, first[k]), second[k]);
                default:
                    return state;
            }
        }

        private int afterFigure(int state, int figure) {
            int shown = figure;
            if (isTyped(state)) {
                shown = shownIn(state) * base + figure;
                if (shown >= numbers && numbers > 0) {
                    shown = dialKind == STOP ? shownIn(state) : shown % numbers;
                }
            }
            return (state & ~LOW) | TYPED_BIT | shown;
        }

        private int afterSign(int state, int sign) {
            int shown = shownIn(state);
            if (signIn(state) != 0 && isTyped(state)) {
                shown = reckon(heldIn(state), signIn(state), shown);
            }
            return (sign << SIGN_AT) | (shown << HELD_AT) | shown;
        }

        private int reckon(int x, int sign, int y) {
            int z = sign == PLUS ? x + y : sign == LESS ? x - y : x * y;
            if (z >= 0 && z < numbers) {
                return z;
            }
            if (z < 0 && dialKind == STOP || numbers <= 0) {
                return 0;
            }
            return dialKind == STOP ? numbers - 1 : Math.floorMod(z, numbers);
        }

        /** How many STATES there can be: their places are 0 up to that. */
        int places() {
            return 2 * numbers * (1 + 3 * numbers);
        }

        int placeOf(int state) {
            int sign = signIn(state);
            int waits = sign == 0 ? 0 : 1 + (sign - 1) * numbers + heldIn(state);
            return 2 * (waits * numbers + shownIn(state)) + (isTyped(state) ? 1 : 0);
        }

        int stateAt(int place) {
            if (numbers <= 0) {
                return AT_FIRST;
            }
            int shown = place / 2 % numbers;
            int waits = place / 2 / numbers;
            int state = shown | (place % 2 == 0 ? 0 : TYPED_BIT);
            if (waits == 0) {
                return state;
            }
            int sign = 1 + (waits - 1) / numbers;
            return state | (sign << SIGN_AT) | ((waits - 1) % numbers << HELD_AT);
        }
    }

    /** What an IMAGE keeps: the STATE, what is SPENT, TARGETS, THE SEED. */
    private static final class Present {
        private int state = AT_FIRST;
        private int spent = 0;
        private int seed = 0;
        private int targetCount = 0;
        private boolean kept = false;
        private final int[] targets = new int[MOST_TARGETS];

        void become(Present other) {
            state = other.state;
            spent = other.spent;
            seed = other.seed;
            targetCount = other.targetCount;
            for (int i = 0; i < MOST_TARGETS; i++) {
                put(targets, i, at(other.targets, i));
            }
        }

        void strikeOnce(Reckoner reckoner, int k) {
            state = reckoner.afterStroke(state, k);
            spent += at(reckoner.cost, k);
        }

        int draw(int n) {
            seed = (int) ((seed * 1103515245L + 12345L) & 0x7fffffffL);
            return n > 0 ? seed / 65536 % n : 0;
        }
    }

    /** Room for one search at a time: STATES as they are met, each with a note. */
    private static final class Rows {
        private static final int OTHER = 0, WAYS = 1;

        private final long[] seen = new long[SEEN_WORDS];
        private final int[] states = new int[MOST_STATES];
        private final int[] notes = new int[MOST_STATES];
        private int count = 0;
        private int holds = OTHER;

        void empty() {
            Arrays.fill(seen, 0L);
            count = 0;
            holds = OTHER;
        }

        /** Whether the state had not been marked. */
        boolean mark(int state) {
            int word = state >> 6;
            if (word < 0 || word >= SEEN_WORDS) {
                return false;
            }
            long bit = 1L << (state & 63);
            if ((seen[word] & bit) != 0) {
                return false;
            }
            seen[word] |= bit;
            return true;
        }

        void append(int state, int note) {
            if (count >= 0 && count < MOST_STATES) {
                states[count] = state;
                notes[count] = note;
                count++;
            }
        }
    }

    /** FEWEST and WAYS to all numbers, and the KEY MORE that makes them least. */
    private static final class Steps {
        private final Rows rows;
        private final int[] fewestTo = new int[MOST_NUMBERS];
        private final int[] metAt = new int[MOST_NUMBERS];
        private final int[] wanted = new int[MOST_NUMBERS];
        private int missing = 0;
        private boolean known = false;
        private boolean moreKnown = false;
        private int moreKind = NONE;
        private int moreFigure = NONE;
        private int moreTogether = NONE;

        Steps(Rows rows) {
            this.rows = rows;
        }

        void forgetSteps() {
            known = false;
            rows.holds = Rows.OTHER;
        }

        void forgetMore() {
            moreKnown = false;
        }

        void learn(Reckoner reckoner, int state) {
            if (!known) {
                Arrays.fill(wanted, 1);
                missing = reckoner.numbers;
                spread(reckoner, state);
                rows.holds = Rows.WAYS;
                known = true;
            }
        }

        void learnWays(Reckoner reckoner, int state) {
            if (rows.holds != Rows.WAYS) {
                known = false;
            }
            learn(reckoner, state);
        }

        int to(int v) {
            return at(fewestTo, v);
        }

        int keyOfWay(int v, int i) {
            int length = to(v);
            if (i < 0 || i >= length) {
                return NONE;
            }
            int place = at(metAt, v);
            for (int step = length - 1; step > i; step--) {
                place = at(rows.notes, place) >> 4;
            }
            return at(rows.notes, place) & 15;
        }

        // Keys are tried in their order, so STATES are met in the order of their first rows of strokes,
        // and the first one met that shows a number ends the WAY to it.
        private void spread(Reckoner reckoner, int state) {
            rows.empty();
            Arrays.fill(fewestTo, NONE);
            meet(state, NONE, 0);
            int level = 1;
            int levelEnd = 1;
            for (int head = 0; head < MOST_STATES; head++) {
                if (head >= rows.count || missing <= 0) {
                    break;
                }
                if (head == levelEnd) {
                    level++;
                    levelEnd = rows.count;
                }
                int from = at(rows.states, head);
                for (int k = 0; k < reckoner.keys; k++) {
                    meet(reckoner.afterStroke(from, k), head << 4 | k, level);
                }
            }
        }

        private void meet(int state, int note, int level) {
            if (!rows.mark(state)) {
                return;
            }
            rows.append(state, note);
            int shown = shownIn(state);
            if (shown < MOST_NUMBERS && fewestTo[shown] == NONE) {
                fewestTo[shown] = level;
                metAt[shown] = rows.count - 1;
                missing -= wanted[shown];
            }
        }

        void learnMore(Reckoner reckoner, Present present) {
            if (moreKnown) {
                return;
            }
            known = false;
            moreKnown = true;
            moreTogether = NONE;
            // A KEY that is there already adds nothing to what the KEYS can do without it.
            int plain = together(reckoner, present);
            for (int i = 0; i < reckoner.base + IS; i++) {
                int kind = i < reckoner.base ? FIGURE : PLUS + i - reckoner.base;
                int figure = kind == FIGURE ? i : NONE;
                int sum = plain;
                if (!reckoner.hasKey(kind, figure)) {
                    reckoner.addKey(kind, 1, figure, NONE);
                    sum = together(reckoner, present);
                    reckoner.dropKey();
                }
                if (moreTogether == NONE || sum < moreTogether) {
                    moreKind = kind;
                    moreFigure = figure;
                    moreTogether = sum;
                }
            }
        }

        private int together(Reckoner reckoner, Present present) {
            Arrays.fill(wanted, 0);
            missing = 0;
            for (int i = 0; i < present.targetCount; i++) {
                int v = at(present.targets, i);
                if (at(wanted, v) == 0) {
                    put(wanted, v, 1);
                    missing++;
                }
            }
            spread(reckoner, present.state);
            int sum = 0;
            for (int i = 0; i < present.targetCount; i++) {
                int steps = to(at(present.targets, i));
                sum += steps == NONE ? NEVER_COUNTS : steps;
            }
            return sum;
        }
    }

    /** LEAST to all numbers. */
    private static final class Costs {
        private final Rows rows;
        private final int[] least = new int[MOST_NUMBERS];
        private final int[] turnOf = new int[MOST_KEYS];
        private int missing = 0;
        private int cheapest = 0;
        private boolean known = false;

        Costs(Rows rows) {
            this.rows = rows;
        }

        // STATES are met in the order of their costs, so for each KEY the costs behind it come in order too:
        // the next STATE is the cheapest of what each KEY makes of the STATE whose turn it has.
        void learn(Reckoner reckoner, int state) {
            if (known) {
                return;
            }
            rows.empty();
            Arrays.fill(least, NONE);
            Arrays.fill(turnOf, 0);
            missing = reckoner.numbers;
            meet(state, 0);
            for (int turn = 0; turn < MOST_STATES * MOST_KEYS; turn++) {
                int k = missing > 0 ? cheapestKey(reckoner) : NONE;
                if (k == NONE) {
                    break;
                }
                int from = at(rows.states, at(turnOf, k));
                put(turnOf, k, at(turnOf, k) + 1);
                meet(reckoner.afterStroke(from, k), cheapest);
            }
            known = true;
        }

        private int cheapestKey(Reckoner reckoner) {
            int best = NONE;
            for (int k = 0; k < reckoner.keys; k++) {
                int turn = at(turnOf, k);
                if (turn < rows.count) {
                    int cost = at(rows.notes, turn) + at(reckoner.cost, k);
                    if (best == NONE || cost < cheapest) {
                        best = k;
                        cheapest = cost;
                    }
                }
            }
            return best;
        }

        private void meet(int state, int cost) {
            if (rows.mark(state)) {
                rows.append(state, cost);
                if (at(least, shownIn(state)) == NONE) {
                    put(least, shownIn(state), cost);
                    missing--;
                }
            }
        }
    }

    /** LIST: TARGETS one behind the other. */
    private static final class Chain {
        private final Rows rows;
        private int[] startStates = new int[MOST_STATES_SHOWING];
        private int[] startSteps = new int[MOST_STATES_SHOWING];
        private int starts = 0;
        private int[] endStates = new int[MOST_STATES_SHOWING];
        private int[] endSteps = new int[MOST_STATES_SHOWING];
        private int ends = 0;

        Chain(Rows rows) {
            this.rows = rows;
        }

        int fewestForAll(Reckoner reckoner, Present present) {
            put(startStates, 0, present.state);
            put(startSteps, 0, 0);
            starts = 1;
            for (int i = 0; i < present.targetCount; i++) {
                int goal = at(present.targets, i);
                if (i > 0 && goal == at(present.targets, i - 1)) {
                    continue;
                }
                spread(reckoner, goal, i == present.targetCount - 1);
                if (ends == 0) {
                    return NONE;
                }
                endsBecomeStarts();
            }
            return at(startSteps, 0);
        }

        private void endsBecomeStarts() {
            int[] states = startStates;
            int[] steps = startSteps;
            startStates = endStates;
            startSteps = endSteps;
            starts = ends;
            endStates = states;
            endSteps = steps;
        }

        // Starts come in the order of their steps, and so do the STATES in the rows: a start joins them
        // when the STATES ahead of it have been gone through.
        private void spread(Reckoner reckoner, int goal, boolean oneIsEnough) {
            rows.empty();
            ends = 0;
            int start = 0;
            int head = 0;
            for (int turn = 0; turn < MOST_STATES + MOST_STATES_SHOWING; turn++) {
                boolean idle = head >= rows.count;
                if (idle && start >= starts || oneIsEnough && ends > 0) {
                    break;
                }
                int steps = idle ? at(startSteps, start) : at(rows.notes, head) + 1;
                while (start < starts && at(startSteps, start) <= steps) {
                    meet(at(startStates, start), at(startSteps, start), goal);
                    start++;
                }
                if (!idle) {
                    int from = at(rows.states, head);
                    for (int k = 0; k < reckoner.keys; k++) {
                        meet(reckoner.afterStroke(from, k), steps, goal);
                    }
                    head++;
                }
            }
        }

        private void meet(int state, int steps, int goal) {
            if (!rows.mark(state)) {
                return;
            }
            if (shownIn(state) != goal) {
                rows.append(state, steps);
            } else if (ends < MOST_STATES_SHOWING) {
                put(endStates, ends, state);
                put(endSteps, ends, steps);
                ends++;
            }
        }
    }

    /** STRUCK: rows of KEYS that can have been, and KEYS that are in each. */
    private static final class Past {
        private static final int ALL_KEYS = (1 << MOST_KEYS) - 1;

        private final Rows rows;
        private int total = 0;
        private int common = 0;

        Past(Rows rows) {
            this.rows = rows;
        }

        // At each STATE's place stands how many rows of KEYS lead to it, and in the low bits which are in each;
        // rows of seven KEYS, the longest that are kept so, are 8 to the 7 at most, which leaves room for both.
        void count(Reckoner reckoner, int state, int n, int goal) {
            total = 0;
            common = ALL_KEYS;
            rows.empty();
            int[] now = rows.states;
            int[] next = rows.notes;
            Arrays.fill(now, 0);
            put(now, reckoner.placeOf(state), 1 << MOST_KEYS);
            for (int step = 1; step < n; step++) {
                Arrays.fill(next, 0);
                goOn(reckoner, now, next);
                int[] old = now;
                now = next;
                next = old;
            }
            if (n == 0) {
                total = shownIn(state) == goal ? 1 : 0;
                common = 0;
            } else {
                countLast(reckoner, now, goal);
            }
        }

        private void goOn(Reckoner reckoner, int[] now, int[] next) {
            int places = Math.min(reckoner.places(), now.length);
            for (int place = 0; place < places; place++) {
                if (now[place] != 0) {
                    int from = reckoner.stateAt(place);
                    for (int k = 0; k < reckoner.keys; k++) {
                        join(next, reckoner.placeOf(reckoner.afterStroke(from, k)), now[place] | 1 << k);
                    }
                }
            }
        }

        private void join(int[] next, int place, int entry) {
            int there = at(next, place);
            if (there == 0) {
                put(next, place, entry);
            } else {
                int rowsOfBoth = (there >> MOST_KEYS) + (entry >> MOST_KEYS);
                put(next, place, rowsOfBoth << MOST_KEYS | (there & entry & ALL_KEYS));
            }
        }

        private void countLast(Reckoner reckoner, int[] now, int goal) {
            int places = Math.min(reckoner.places(), now.length);
            for (int place = 0; place < places; place++) {
                if (now[place] != 0) {
                    int from = reckoner.stateAt(place);
                    for (int k = 0; k < reckoner.keys; k++) {
                        if (shownIn(reckoner.afterStroke(from, k)) == goal) {
                            total += now[place] >> MOST_KEYS;
                            common &= now[place] | 1 << k;
                        }
                    }
                }
            }
            if (total == 0) {
                common = 0;
            }
        }
    }

    /** LOST: rows of strokes by which a KEY without its letter is known. */
    private static final class Trials {
        // Stroke by stroke, for each KEY that the lost one may be: the STATE, and all that has been read.
        private final int[] states = new int[(MOST_TRIALS + 1) * MOST_KEYS];
        private final int[] readings = new int[(MOST_TRIALS + 1) * MOST_KEYS];
        private final int[] maybe = new int[MOST_KEYS];
        private int count = 0;

        int fewestToTell(Reckoner reckoner, int state, int set) {
            count = 0;
            for (int k = 0; k < MOST_KEYS; k++) {
                if ((set >> k & 1) != 0) {
                    put(maybe, count, k);
                    put(states, count, state);
                    put(readings, count, 0);
                    count++;
                }
            }
            for (int length = 1; length <= MOST_TRIALS; length++) {
                if (canTell(this, reckoner, 0, length)) {
                    return length;
                }
            }
            return NONE;
        }

        private static boolean canTell(Trials trials, Reckoner reckoner, int depth, int length) {
            if (depth >= length || depth >= MOST_TRIALS) {
                return trials.allDiffer(depth);
            }
            for (int k = 0; k <= reckoner.keys; k++) {
                trials.strokeAll(reckoner, depth, k);
                if (canTell(trials, reckoner, depth + 1, length)) {
                    return true;
                }
            }
            return false;
        }

        /** The number behind the last KEY's stands for the lost one. */
        private void strokeAll(Reckoner reckoner, int depth, int k) {
            int from = depth * MOST_KEYS;
            int to = from + MOST_KEYS;
            for (int i = 0; i < count; i++) {
                int struckKey = k == reckoner.keys ? at(maybe, i) : k;
                int state = reckoner.afterStroke(at(states, from + i), struckKey);
                put(states, to + i, state);
                put(readings, to + i, at(readings, from + i) << 7 | shownIn(state));
            }
        }

        private boolean allDiffer(int depth) {
            int from = depth * MOST_KEYS;
            for (int i = 0; i < count; i++) {
                for (int j = 0; j < i; j++) {
                    if (at(readings, from + i) == at(readings, from + j)) {
                        return false;
                    }
                }
            }
            return true;
        }
    }

    /** GAME: who first shows a number. */
    private static final class Game {
        private int winner = 0;
        private int bestKey = NONE;

        void play(Reckoner reckoner, int state, int goal, int strokes) {
            winner = 0;
            bestKey = NONE;
            if (strokes <= 0) {
                return;
            }
            for (int k = 0; k < reckoner.keys; k++) {
                int worth = worthOfKey(reckoner, state, goal, strokes, k);
                if (bestKey == NONE || worth > winner) {
                    bestKey = k;
                    winner = worth;
                }
            }
        }

        /** For who is to strike: 1 has won, -1 has lost, 0 neither. */
        private static int worth(Reckoner reckoner, int state, int goal, int strokes) {
            if (strokes <= 0 || reckoner.keys == 0) {
                return 0;
            }
            int best = -1;
            for (int k = 0; k < reckoner.keys && best < 1; k++) {
                best = Math.max(best, worthOfKey(reckoner, state, goal, strokes, k));
            }
            return best;
        }

        private static int worthOfKey(Reckoner reckoner, int state, int goal, int strokes, int k) {
            int next = reckoner.afterStroke(state, k);
            return shownIn(next) == goal ? 1 : -worth(reckoner, next, goal, strokes - 1);
        }
    }

    /** THE BOOK: KEYS, each with the number that is told to be SHOWN behind it. */
    private static final class Book {
        private final int[] keys = new int[MOST_ENTRIES];
        private final int[] shown = new int[MOST_ENTRIES];
        private int size = 0;

        void append(int k, int number) {
            if (size >= 0 && size < MOST_ENTRIES) {
                keys[size] = k;
                shown[size] = number;
                size++;
            }
        }

        int firstWrong(Reckoner reckoner, int start) {
            int state = start;
            for (int i = 0; i < size; i++) {
                state = reckoner.afterStroke(state, at(keys, i));
                if (shownIn(state) != at(shown, i)) {
                    return i;
                }
            }
            return NONE;
        }
    }
}
