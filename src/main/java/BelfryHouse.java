import java.util.Arrays;

/** A belfry, as ../shared/DOC.md tells it. The words in capitals here are the document's. */
public final class BelfryHouse {
    public static final int BAD = -1, NO = -2, FULL = -3, NULL = -4, SIZE = -5, INDEX = -6, CAST = -7, STORE = -8, NONE = -9;

    private static final int LEAST_BELLS = 3, MOST_BELLS = 8, FIRST_BELLS = 6, GROUP_BELLS = 6;
    private static final int MOST_BYTES = 600, MOST_METHODS = 8;
    private static final int MOST_STEPS = 2000, MOST_STEPS_ASKED = 500, MOST_TIMES = 9;
    private static final int MOST_GENERATORS = 6, MOST_HEAD_ROWS = 60;
    private static final int MOST_RUNG = 400, MOST_BLOWS = 300;
    private static final int BOARDS = 8, MOST_ITEMS = 64;
    private static final int BELOW_ALL = -10, NOT_BLOWN = -1000000;

    private int bells = FIRST_BELLS;
    private final byte[] tape = new byte[MOST_BYTES];
    private int taped = 0;
    private final Method[] methods = new Method[MOST_METHODS];
    private int methodCount = 0;
    private final Run theRun = new Run();
    private final Group theGroup = new Group();
    private final Heads theHeads = new Heads();
    private final Band theBand = new Band();
    private final Recording theRecording = new Recording();
    private final Shelf theShelf = new Shelf();

    public BelfryHouse() {
        beginAnew();
    }

    private void beginAnew() {
        methodCount = 0;
        theRun.end();
        theGroup.dissolve(bells);
        theHeads.forget();
        theBand.assemble();
        theRecording.erase();
        theShelf.sweep();
    }

    public int stage(int n) {
        if (n < LEAST_BELLS || n > MOST_BELLS) return BAD;
        int before = bells;
        bells = n;
        beginAnew();
        return before;
    }

    private boolean isBell(int bell) {
        return bell >= 1 && bell <= bells;
    }

    private int numberOf(int row) {
        return Rows.toNumber(bells, row);
    }

    // ---- rows

    public int product(int a, int b) {
        int first = Rows.fromNumber(bells, a), second = Rows.fromNumber(bells, b);
        if (first == Rows.NO_ROW || second == Rows.NO_ROW) return BAD;
        return numberOf(Rows.times(bells, first, second));
    }

    public int inverse(int a) {
        int row = Rows.fromNumber(bells, a);
        return row == Rows.NO_ROW ? BAD : numberOf(Rows.undone(bells, row));
    }

    public int told(int row, int what) {
        int packed = Rows.fromNumber(bells, row);
        if (packed == Rows.NO_ROW) return BAD;
        switch (what) {
            case 0: return Rows.order(bells, packed);
            case 1: return Rows.rank(bells, packed);
            case 2: return Rows.isEven(bells, packed) ? 1 : 0;
            default: return BAD;
        }
    }

    public int ranked(int rank) {
        if (rank < 0 || rank >= Rows.howMany(bells)) return BAD;
        return numberOf(Rows.ofRank(bells, rank));
    }

    // ---- methods

    public int feed(int n, long bytes) {
        if (n < 1 || n > 8) return BAD;
        if (n > MOST_BYTES - taped) return FULL;
        for (int i = 0; i < n; i++) tape[taped++] = (byte) (bytes >>> (8 * i));
        return taped;
    }

    public int method() {
        int length = taped;
        taped = 0;
        if (methodCount >= MOST_METHODS) return FULL;
        Reader reader = new Reader(tape, length, bells);
        reader.readMethod();
        if (reader.fault >= 0) return BELOW_ALL - reader.fault;
        methods[methodCount] = reader.method;
        return methodCount++;
    }

    private boolean isMethod(int method) {
        return method >= 0 && method < methodCount;
    }

    public int about(int method, int what) {
        if (!isMethod(method)) return BAD;
        switch (what) {
            case 0: return methods[method].ruleCount;
            case 1: return methods[method].changeCount;
            default: return BAD;
        }
    }

    public int change(int method, int rule, int row) {
        int packed = Rows.fromNumber(bells, row);
        if (!isMethod(method) || packed == Rows.NO_ROW) return BAD;
        if (rule < 0 || rule >= methods[method].ruleCount) return BAD;
        return numberOf(Rows.times(bells, packed, methods[method].rules[rule].move));
    }

    // ---- the run

    public int ring(int method) {
        if (!isMethod(method)) return BAD;
        theRun.begin(methods[method], bells);
        return 0;
    }

    public int call(int step, int on) {
        if (step < 0 || step >= MOST_STEPS || on < 0 || on > 1) return BAD;
        if (!theRun.isOn()) return NO;
        theRun.called[step] = (byte) on;
        return 0;
    }

    public int go(int steps) {
        if (steps < 1 || steps > MOST_STEPS_ASKED) return BAD;
        if (!theRun.isOn()) return NO;
        return theRun.goOn(steps, bells);
    }

    public int rowAt(int k) {
        return theRun.hasRows(k, 1) ? numberOf(theRun.rows[k]) : BAD;
    }

    public int run(int what) {
        if (what < 0 || what > 3) return BAD;
        if (!theRun.isOn()) return NO;
        switch (what) {
            case 0: return theRun.steps;
            case 1: return theRun.stuck ? 1 : 0;
            case 2: return theRun.firstRounds;
            default: return theRun.different;
        }
    }

    public int truth(int times, int side) {
        if (times < 1 || times > MOST_TIMES || side < 0 || side > 1) return BAD;
        if (!theRun.isOn()) return NO;
        int row = theRun.firstAgain[times];
        return row == NONE || side == 0 ? row : theRun.latestSame[row];
    }

    // ---- groups and heads

    public int generator(int row) {
        int packed = Rows.fromNumber(bells, row);
        if (packed == Rows.NO_ROW) return BAD;
        if (bells > GROUP_BELLS) return NO;
        if (theGroup.given >= MOST_GENERATORS) return FULL;
        theGroup.admit(bells, packed);
        return theGroup.given;
    }

    public int free() {
        int had = theGroup.given;
        theGroup.dissolve(bells);
        return had;
    }

    public int group() {
        return bells > GROUP_BELLS ? NO : theGroup.size;
    }

    public int coset(int row) {
        int packed = Rows.fromNumber(bells, row);
        if (packed == Rows.NO_ROW) return BAD;
        if (bells > GROUP_BELLS) return NO;
        return theGroup.has(bells, packed) ? BELOW_ALL : Rows.rank(bells, theGroup.leastWith(bells, packed));
    }

    public int heads(int a, int b) {
        if (a < 0 || b < a || b - a >= MOST_HEAD_ROWS || !theRun.hasRows(a, b - a + 1)) return BAD;
        theHeads.find(bells, theRun.rows, a, b);
        return theHeads.count;
    }

    public int head(int k) {
        if (k < 0 || k >= theHeads.count) return BAD;
        return numberOf(Rows.ofRank(bells, theHeads.ranks[k]));
    }

    // ---- the band

    public int ringer(int bell, int kind, int skill) {
        if (!isBell(bell) || kind < 0 || kind > Band.TENOR || skill < 0 || skill > Band.MOST_SKILL) return BAD;
        theBand.put(bell, kind, skill);
        return 0;
    }

    public int band(int seed, int from, int rows) {
        if (rows < 1 || rows > MOST_RUNG || !theRun.hasRows(from, rows)) return BAD;
        theBand.beginRinging();
        int rung = 0;
        for (int r = from; r < from + rows; r++) {
            if (!theBand.ringRow(bells, theRun.rows[r], r, seed)) return BELOW_ALL - rung;
            rung++;
        }
        return rung;
    }

    public int blow(int k, int bell) {
        return isBell(bell) ? theBand.timeOf(bells, k, bell) : NOT_BLOWN;
    }

    public int ringing(int what) {
        switch (what) {
            case 0: return theBand.clashes;
            case 1: return theBand.words;
            case 2: return theBand.begun;
            case 3: return theBand.lost;
            default: return BAD;
        }
    }

    public int slips(int bell) {
        return isBell(bell) ? theBand.slipped[bell] : BAD;
    }

    // ---- the recording

    public int note(int bell, long bits) {
        if (!isBell(bell)) return BAD;
        if (theRecording.count >= MOST_BLOWS) return FULL;
        return theRecording.add(bell, bits);
    }

    public int wipe() {
        int had = theRecording.count;
        theRecording.erase();
        return had;
    }

    public int listen() {
        if (theBand.blown > MOST_BLOWS - theRecording.count) return FULL;
        long thousand = Reals.fromInt(1000);
        for (int k = 0; k < theBand.begun; k++) {
            for (int p = 0; p < theBand.blownIn[k]; p++) {
                long seconds = Reals.divide(Reals.fromInt(theBand.times[k * MOST_BELLS + p]), thousand);
                theRecording.add(Rows.at(bells, theBand.rungRows[k], p) + 1, seconds);
            }
        }
        return theBand.blown;
    }

    public int inOrder(int i, int what) {
        if (i < 0 || i >= theRecording.known) return BAD;
        int blow = theRecording.order[i];
        switch (what) {
            case 0: return blow;
            case 1: return theRecording.bellOf[blow];
            default: return BAD;
        }
    }

    public int heard(int k) {
        if (k < 0 || k >= theRecording.known / bells) return BAD;
        return theRecording.rowHeard(bells, k);
    }

    public long line(int what) {
        if (what < 0 || what > 3) return 0;
        theRecording.lay();
        switch (what) {
            case 0: return theRecording.gap;
            case 1: return theRecording.lead;
            case 2: return theRecording.greatest;
            default: return theRecording.root;
        }
    }

    public long along(int i, int what) {
        if (i < 0 || i >= theRecording.known || what < 0 || what > 2) return 0;
        theRecording.lay();
        switch (what) {
            case 0: return theRecording.timeInOrder(i);
            case 1: return theRecording.errors[i];
            default: return theRecording.placeOnLine(i);
        }
    }

    // ---- the shelf

    private static boolean isBoard(int b) {
        return b >= 0 && b < BOARDS;
    }

    private static boolean isSort(int sort) {
        return sort >= Shelf.BYTES && sort <= Shelf.CALLED_LINES;
    }

    public int board(int b, int sort, int n) {
        if (!isBoard(b) || !isSort(sort) || n > MOST_ITEMS) return BAD;
        if (n < 0) return SIZE;
        theShelf.lay(b, sort, n);
        return 0;
    }

    public int clear(int b) {
        if (!isBoard(b)) return BAD;
        theShelf.sorts[b] = Shelf.NOTHING;
        return 0;
    }

    public int items(int b) {
        if (!isBoard(b)) return BAD;
        return theShelf.holdsNothing(b) ? NULL : theShelf.sizes[b];
    }

    public int fill(int b, int from, int n) {
        if (!isBoard(b) || n < 0 || n > MOST_ITEMS) return BAD;
        if (n > 0 && !theRun.hasRows(from, n)) return BAD;
        if (theShelf.holdsNothing(b)) return NULL;
        for (int i = 0; i < n; i++) {
            if (i >= theShelf.sizes[b]) return INDEX;
            long value = itemFromRow(theShelf.sorts[b], from + i);
            if (!theShelf.takes(b, value)) return STORE;
            theShelf.items[b][i] = value;
        }
        return 0;
    }

    private long itemFromRow(int sort, int k) {
        int row = theRun.rows[k];
        switch (sort) {
            case Shelf.BYTES: return Rows.at(bells, row, 0) + 1;
            case Shelf.INTS: return Rows.rank(bells, row);
            case Shelf.DOUBLES: return Reals.divide(Reals.fromInt(Rows.rank(bells, row)), Reals.fromInt(k));
            default: return Shelf.lineOf(row, theRun.madeCalled[k] != 0);
        }
    }

    public int copy(int a, int i, int b, int j, int n) {
        if (!isBoard(a) || !isBoard(b)) return BAD;
        return theShelf.copyItems(a, i, b, j, n);
    }

    public long item(int b, int sort, int i) {
        if (!isBoard(b) || !isSort(sort)) return 0;
        if (theShelf.holdsNothing(b)) return NULL;
        if (!theShelf.readsAs(b, sort)) return CAST;
        if (i < 0 || i >= theShelf.sizes[b]) return INDEX;
        long value = theShelf.items[b][i];
        if (!Shelf.isOfLines(sort)) return value;
        return value == Shelf.NO_LINE ? NULL : numberOf(Shelf.rowOfLine(value));
    }

    /**
     * ROWS, packed: four bits a PLACE, PLACE 1 the highest, in them the bell less one.
     * So a row is one int, no array, and rows lie by RANK as these ints do. Places and bells count from 0 here.
     */
    private static final class Rows {
        static final int NO_ROW = -1;
        private static final int MOST_ORDER = 15;
        private static final int[] FACTORIALS = {1, 1, 2, 6, 24, 120, 720, 5040, 40320};

        static int howMany(int n) {
            return FACTORIALS[n];
        }

        static int at(int n, int row, int place) {
            return row >>> (4 * (n - 1 - place)) & 15;
        }

        private static int put(int n, int bell, int place) {
            return bell << (4 * (n - 1 - place));
        }

        static int placeOf(int n, int row, int bell) {
            int place = 0;
            while (place < n - 1 && at(n, row, place) != bell) place++;
            return place;
        }

        static int rounds(int n) {
            int row = 0;
            for (int i = 0; i < n; i++) row = row << 4 | i;
            return row;
        }

        static int fromNumber(int n, int number) {
            int row = 0, seen = 0, rest = number;
            for (int place = n - 1; place >= 0; place--) {
                int bell = rest % 10 - 1;
                if (bell < 0 || bell >= n || (seen >>> bell & 1) != 0) return NO_ROW;
                seen |= 1 << bell;
                row |= put(n, bell, place);
                rest /= 10;
            }
            return rest == 0 ? row : NO_ROW;
        }

        static int toNumber(int n, int row) {
            int number = 0;
            for (int place = 0; place < n; place++) number = number * 10 + at(n, row, place) + 1;
            return number;
        }

        static int times(int n, int a, int b) {
            int row = 0;
            for (int place = 0; place < n; place++) row = row << 4 | at(n, a, at(n, b, place));
            return row;
        }

        static int undone(int n, int a) {
            int row = 0;
            for (int place = 0; place < n; place++) row |= put(n, place, at(n, a, place));
            return row;
        }

        static int order(int n, int a) {
            int rounds = rounds(n), power = a, order = 1;
            while (order < MOST_ORDER && power != rounds) {
                power = times(n, power, a);
                order++;
            }
            return order;
        }

        static int rank(int n, int row) {
            int rank = 0, seen = 0;
            for (int place = 0; place < n; place++) {
                int bell = at(n, row, place);
                int lessAhead = Integer.bitCount(seen & (1 << bell) - 1);
                rank = rank * (n - place) + bell - lessAhead;
                seen |= 1 << bell;
            }
            return rank;
        }

        static int ofRank(int n, int rank) {
            int row = 0, seen = 0, rest = rank;
            for (int place = 0; place < n; place++) {
                int behind = FACTORIALS[n - 1 - place];
                int bell = unseen(n, seen, rest / behind);
                rest %= behind;
                seen |= 1 << bell;
                row = row << 4 | bell;
            }
            return row;
        }

        private static int unseen(int n, int seen, int skip) {
            int left = skip;
            for (int bell = 0; bell < n; bell++) {
                if ((seen >>> bell & 1) != 0) continue;
                if (left == 0) return bell;
                left--;
            }
            return 0;
        }

        static boolean isEven(int n, int row) {
            int pairs = 0, seen = 0;
            for (int place = 0; place < n; place++) {
                int bell = at(n, row, place);
                pairs += Integer.bitCount(seen >>> bell);
                seen |= 1 << bell;
            }
            return (pairs & 1) == 0;
        }

        private static int swapped(int n, int row, int one, int other) {
            int difference = at(n, row, one) ^ at(n, row, other);
            return row ^ put(n, difference, one) ^ put(n, difference, other);
        }

        /** By twos from the left; to is behind the last place. */
        static int paired(int n, int row, int from, int to) {
            int made = row;
            for (int place = from; place + 1 < to; place += 2) made = swapped(n, made, place, place + 1);
            return made;
        }

        static int jumped(int n, int row, int from, int to) {
            int made = row, way = from < to ? 1 : -1;
            for (int place = from, left = Math.abs(to - from); left > 0; left--, place += way) {
                made = swapped(n, made, place, place + way);
            }
            return made;
        }

        static int turned(int n, int row, int from, int to) {
            int made = row;
            for (int one = from, other = to; one < other; one++, other--) made = swapped(n, made, one, other);
            return made;
        }
    }

    /** A rule. Its change only moves places, so it is kept as the row that it makes of ROUNDS: the product does it. */
    private static final class Rule {
        static final int AT = 0, BEFORE = 1, EVEN = 2, ROUND = 3, CALLED = 4, EVERY = 5;
        static final int MOST_CONDS = 8;

        private final int[] kinds = new int[MOST_CONDS];
        private final boolean[] nots = new boolean[MOST_CONDS];
        private final int[] lefts = new int[MOST_CONDS];
        private final int[] rights = new int[MOST_CONDS];
        private int condCount = 0;
        int move = 0;

        void require(boolean not, int kind, int left, int right) {
            if (condCount >= MOST_CONDS) return;
            nots[condCount] = not;
            kinds[condCount] = kind;
            lefts[condCount] = left;
            rights[condCount] = right;
            condCount++;
        }

        boolean holds(int n, int row, int step, boolean called) {
            for (int i = 0; i < condCount; i++) {
                if (isSo(i, n, row, step, called) == nots[i]) return false;
            }
            return true;
        }

        private boolean isSo(int i, int n, int row, int step, boolean called) {
            int left = lefts[i], right = rights[i];
            switch (kinds[i]) {
                case AT: return Rows.at(n, row, right - 1) == left - 1;
                case BEFORE: return Rows.placeOf(n, row, left - 1) < Rows.placeOf(n, row, right - 1);
                case EVEN: return Rows.isEven(n, row);
                case ROUND: return row == Rows.rounds(n);
                case CALLED: return called;
                default: return left > 0 && (step - right) % left == 0;
            }
        }
    }

    private static final class Method {
        static final int MOST_RULES = 20;

        final Rule[] rules = new Rule[MOST_RULES];
        int ruleCount = 0;
        /** The COUNT of all changes together is how many stand in the text: each is 1 and its parts. */
        int changeCount = 0;

        void add(Rule rule) {
            if (ruleCount < MOST_RULES) rules[ruleCount++] = rule;
        }

        Rule ruleFor(int n, int row, int step, boolean called) {
            for (int i = 0; i < ruleCount; i++) {
                if (rules[i].holds(n, row, step, called)) return rules[i];
            }
            return null;
        }
    }

    /** Reads a METHOD. The first refusal stays THE FAULT, so that what is read behind it does no harm. */
    private static final class Reader {
        private static final int END = 0, BLANK = 1, WORD = 2, NUMBER = 3, SIGN = 4, WRONG = 5;
        private static final int NO_NUMBER = -1;
        private static final int MOST_DIGITS = 8, MOST_CHANGES = 40, MOST_ABOUT = 6, MOST_EVERY = 99;

        final Method method = new Method();
        int fault = -1;
        private final byte[] text;
        private final int length;
        private final int n;
        private int kind = END;
        private int tokenFrom = 0;
        private int tokenTo = 0;

        Reader(byte[] text, int length, int n) {
            this.text = text;
            this.length = length;
            this.n = n;
        }

        private void refuse() {
            if (fault < 0) fault = tokenFrom;
        }

        private static int kindOf(int c) {
            if (c == 32 || c == 10) return BLANK;
            if (c >= 'a' && c <= 'z') return WORD;
            if (c >= '0' && c <= '9') return NUMBER;
            return c == ';' || c == '(' || c == ')' || c == ',' ? SIGN : WRONG;
        }

        private void nextToken() {
            while (tokenTo < length && kindOf(text[tokenTo]) == BLANK) tokenTo++;
            tokenFrom = tokenTo;
            kind = tokenFrom < length ? kindOf(text[tokenFrom]) : END;
            if (kind == END) return;
            tokenTo++;
            boolean isLong = kind == WORD || kind == NUMBER;
            while (isLong && tokenTo < length && kindOf(text[tokenTo]) == kind) tokenTo++;
        }

        private boolean isWord(String word) {
            if (kind != WORD || tokenTo - tokenFrom != word.length()) return false;
            for (int i = 0; i < word.length(); i++) {
                if (text[tokenFrom + i] != word.charAt(i)) return false;
            }
            return true;
        }

        private boolean takesWord(String word) {
            boolean is = isWord(word);
            if (is) nextToken();
            return is;
        }

        private boolean takesSign(char sign) {
            boolean is = kind == SIGN && text[tokenFrom] == sign;
            if (is) nextToken();
            return is;
        }

        private int number() {
            if (kind != NUMBER || tokenTo - tokenFrom > MOST_DIGITS) return NO_NUMBER;
            int number = 0;
            for (int i = tokenFrom; i < tokenTo; i++) number = number * 10 + text[i] - '0';
            return number;
        }

        /** The least, if what stands here is refused. */
        private int numberWithin(int least, int most, int but) {
            int number = number();
            if (number < least || number > most || number == but) {
                refuse();
                return least;
            }
            nextToken();
            return number;
        }

        void readMethod() {
            nextToken();
            for (int i = 0; i <= Method.MOST_RULES && fault < 0 && (i == 0 || kind != END); i++) {
                if (i == Method.MOST_RULES) refuse();
                else readRule();
            }
        }

        private void readRule() {
            Rule rule = new Rule();
            boolean more = takesWord("when");
            for (int i = 0; i <= Rule.MOST_CONDS && more; i++) {
                if (i == Rule.MOST_CONDS) refuse();
                else readCond(rule);
                more = fault < 0 && takesWord("and");
            }
            if (fault < 0) rule.move = readChange(0);
            if (fault < 0 && !takesSign(';')) refuse();
            method.add(rule);
        }

        private void readCond(Rule rule) {
            boolean not = takesWord("not");
            if (kind == NUMBER) {
                readPlacing(rule, not);
            } else if (takesWord("even")) {
                rule.require(not, Rule.EVEN, 0, 0);
            } else if (takesWord("round")) {
                rule.require(not, Rule.ROUND, 0, 0);
            } else if (takesWord("called")) {
                rule.require(not, Rule.CALLED, 0, 0);
            } else if (takesWord("every")) {
                int every = numberWithin(1, MOST_EVERY, NO_NUMBER);
                rule.require(not, Rule.EVERY, every, numberWithin(0, every - 1, NO_NUMBER));
            } else {
                refuse();
            }
        }

        private void readPlacing(Rule rule, boolean not) {
            int bell = numberWithin(1, n, NO_NUMBER);
            if (takesWord("at")) rule.require(not, Rule.AT, bell, numberWithin(1, n, NO_NUMBER));
            else if (takesWord("before")) rule.require(not, Rule.BEFORE, bell, numberWithin(1, n, bell));
            else refuse();
        }

        /** What the change makes of ROUNDS; ROUNDS itself, if it is refused. */
        private int readChange(int depth) {
            int rounds = Rows.rounds(n);
            if (method.changeCount >= MOST_CHANGES || depth >= MOST_ABOUT) {
                refuse();
                return rounds;
            }
            method.changeCount++;
            if (takesWord("cross")) return Rows.paired(n, rounds, 0, n);
            if (takesWord("places")) return readPlaces(rounds);
            if (takesWord("jump")) return readJump(rounds);
            if (takesWord("turn")) return readTurn(rounds);
            if (takesWord("hold")) return rounds;
            if (takesWord("twice")) {
                int part = readChange(depth + 1);
                return Rows.times(n, part, part);
            }
            if (takesWord("undo")) return Rows.undone(n, readChange(depth + 1));
            if (takesSign('(')) return readSome(depth);
            refuse();
            return rounds;
        }

        private int readSome(int depth) {
            int whole = readChange(depth + 1);
            // one round more than there may be parts: the change that is one too many must be met to be refused
            for (int parts = 1; parts <= MOST_CHANGES && fault < 0 && takesSign(','); parts++) {
                whole = Rows.times(n, whole, readChange(depth + 1));
            }
            if (fault < 0 && !takesSign(')')) refuse();
            return whole;
        }

        private int readPlaces(int rounds) {
            if (kind != NUMBER) {
                refuse();
                return rounds;
            }
            int row = rounds, behind = 0;
            for (int i = tokenFrom; i < tokenTo; i++) {
                int place = text[i] - '0';
                if (place <= behind || place > n || (place - behind & 1) == 0) {
                    refuse();
                    return rounds;
                }
                row = Rows.paired(n, row, behind, place - 1);
                behind = place;
            }
            if ((n - behind & 1) != 0) refuse();
            else nextToken();
            return Rows.paired(n, row, behind, n);
        }

        private int readJump(int rounds) {
            int from = numberWithin(1, n, NO_NUMBER);
            int to = numberWithin(1, n, from);
            return Rows.jumped(n, rounds, from - 1, to - 1);
        }

        private int readTurn(int rounds) {
            int from = numberWithin(1, n, NO_NUMBER);
            int to = numberWithin(from + 1, n, NO_NUMBER);
            return fault < 0 ? Rows.turned(n, rounds, from - 1, to - 1) : rounds;
        }
    }

    private static final class Run {
        private static final int BUCKET_BITS = 10;

        private Method method = null;
        final int[] rows = new int[MOST_STEPS + 1];
        final byte[] called = new byte[MOST_STEPS];
        /** Of each row, whether its STEP was CALLED when it was made: call() may change that later. */
        final byte[] madeCalled = new byte[MOST_STEPS + 1];
        final int[] latestSame = new int[MOST_STEPS + 1];
        private final int[] cameBefore = new int[MOST_STEPS + 1];
        final int[] firstAgain = new int[MOST_TIMES + 1];
        /** The latest row of a bucket, and from each row the one ahead of it there; 0 ends it, for ROW 0 is in none. */
        private final int[] buckets = new int[1 << BUCKET_BITS];
        private final int[] nextInBucket = new int[MOST_STEPS + 1];
        int steps = 0;
        boolean stuck = false;
        int firstRounds = NONE;
        int different = 0;

        boolean isOn() {
            return method != null;
        }

        void end() {
            method = null;
        }

        void begin(Method rung, int n) {
            method = rung;
            steps = 0;
            stuck = false;
            firstRounds = NONE;
            different = 0;
            rows[0] = Rows.rounds(n);
            Arrays.fill(called, (byte) 0);
            Arrays.fill(firstAgain, NONE);
            Arrays.fill(buckets, 0);
        }

        /** Whether there are so many rows (1 or more) from one on. */
        boolean hasRows(int from, int count) {
            return isOn() && from >= 0 && from <= steps + 1 - count;
        }

        int goOn(int asked, int n) {
            int done = 0;
            boolean more = true;
            while (more && done < asked && steps < MOST_STEPS) {
                more = goOneStep(n);
                if (more) done++;
            }
            return done;
        }

        private boolean goOneStep(int n) {
            int row = rows[steps];
            Rule rule = method == null ? null : method.ruleFor(n, row, steps, called[steps] != 0);
            stuck = rule == null;
            if (rule == null) return false;
            madeCalled[steps + 1] = called[steps];
            steps++;
            rows[steps] = Rows.times(n, row, rule.move);
            if (firstRounds == NONE && rows[steps] == rows[0]) firstRounds = steps;
            compareWithEarlier(steps);
            return true;
        }

        private void compareWithEarlier(int k) {
            int bucket = rows[k] * 0x9E3779B1 >>> 32 - BUCKET_BITS;
            int same = buckets[bucket];
            for (int i = 0; i < MOST_STEPS && same > 0 && rows[same] != rows[k]; i++) same = nextInBucket[same];
            nextInBucket[k] = buckets[bucket];
            buckets[bucket] = k;
            latestSame[k] = same;
            cameBefore[k] = same > 0 ? cameBefore[same] + 1 : 0;
            int times = cameBefore[k];
            if (times == 0) different++;
            else if (times <= MOST_TIMES && firstAgain[times] == NONE) firstAgain[times] = k;
        }
    }

    /** The group stands closed at all times; it is made anew when a GENERATOR comes that was not in it. */
    private static final class Group {
        private static final int MOST_ROWS = 720;

        private final int[] members = new int[MOST_ROWS];
        private final boolean[] isMember = new boolean[MOST_ROWS];
        private final int[] needed = new int[MOST_GENERATORS];
        private int neededCount = 0;
        int size = 0;
        int given = 0;

        void dissolve(int n) {
            given = 0;
            neededCount = 0;
            close(n);
        }

        boolean has(int n, int row) {
            int rank = Rows.rank(n, row);
            return rank < MOST_ROWS && isMember[rank];
        }

        private void include(int n, int row) {
            int rank = Rows.rank(n, row);
            if (rank >= MOST_ROWS || size >= MOST_ROWS || isMember[rank]) return;
            isMember[rank] = true;
            members[size++] = row;
        }

        void admit(int n, int row) {
            given++;
            if (has(n, row) || neededCount >= MOST_GENERATORS) return;
            needed[neededCount++] = row;
            close(n);
        }

        private void close(int n) {
            for (int i = 0; i < MOST_ROWS; i++) isMember[i] = false;
            size = 0;
            include(n, Rows.rounds(n));
            for (int i = 0; i < size && i < MOST_ROWS; i++) {
                for (int g = 0; g < neededCount; g++) include(n, Rows.times(n, members[i], needed[g]));
            }
        }

        int leastWith(int n, int row) {
            int least = row;
            for (int i = 0; i < size; i++) least = Math.min(least, Rows.times(n, members[i], row));
            return least;
        }
    }

    private static final class Heads {
        final int[] ranks = new int[MOST_HEAD_ROWS * MOST_HEAD_ROWS];
        int count = 0;
        /** A bit for each RANK: they come out of it in order, and once each. */
        private final long[] marks = new long[40320 / 64];
        private final int[] inverses = new int[MOST_HEAD_ROWS];

        void forget() {
            count = 0;
        }

        private void mark(int n, int row) {
            int rank = Rows.rank(n, row);
            marks[rank >> 6] |= 1L << (rank & 63);
        }

        void find(int n, int[] rows, int a, int b) {
            Arrays.fill(marks, 0L);
            mark(n, Rows.rounds(n));
            for (int y = a; y <= b; y++) {
                for (int x = a; x < y; x++) {
                    int head = Rows.times(n, rows[y], inverses[x - a]);
                    mark(n, head);
                    mark(n, Rows.undone(n, head));
                }
                inverses[y - a] = Rows.undone(n, rows[y]);
            }
            gather(Rows.howMany(n));
        }

        private void gather(int rankCount) {
            count = 0;
            for (int first = 0; first < rankCount; first += 64) {
                long word = marks[first >> 6];
                for (int bit = 0; bit < 64 && word != 0; bit++) {
                    if ((word & 1) != 0 && count < ranks.length) ranks[count++] = first + bit;
                    word >>>= 1;
                }
            }
        }
    }

    private static final class Band {
        static final int STEADY = 0, EARLY = 1, LEARNER = 2, CONDUCTOR = 3, TENOR = 4;
        static final int MOST_SKILL = 20;
        private static final int FIRST_SKILL = 10, LOST_SLIPS = 3, MOST_WORDS = 5;

        private final int[] kinds = new int[MOST_BELLS + 1];
        private final int[] skills = new int[MOST_BELLS + 1];
        final int[] slipped = new int[MOST_BELLS + 1];
        /** The latest RINGING is kept with its rows, for another RUN may begin meanwhile. */
        final int[] rungRows = new int[MOST_RUNG];
        final int[] blownIn = new int[MOST_RUNG];
        final int[] times = new int[MOST_RUNG * MOST_BELLS];
        int blown = 0;
        int begun = 0;
        int clashes = 0;
        int words = 0;
        int lost = NONE;

        void assemble() {
            for (int bell = 1; bell <= MOST_BELLS; bell++) put(bell, STEADY, FIRST_SKILL);
            beginRinging();
        }

        void put(int bell, int kind, int skill) {
            kinds[bell] = kind;
            skills[bell] = skill;
            slipped[bell] = 0;
        }

        void beginRinging() {
            blown = 0;
            begun = 0;
            clashes = 0;
            words = 0;
            lost = NONE;
        }

        private int draw(int bell, int r, int seed) {
            int h = seed ^ (64 * r + bell) * 0x9E3779B1;
            h = (h ^ h >>> 15) * 0x85EBCA77;
            int wide = 41 - 2 * skills[bell];
            return (wide > 0 ? (h >>> 8) % wide : 0) - 20 + skills[bell];
        }

        private int offset(int bell, int hand) {
            int calm = hand / 2;
            switch (kinds[bell]) {
                case EARLY: return hand - 15;
                case LEARNER: return hand - 15 + 10 * slipped[bell];
                case CONDUCTOR: return calm;
                case TENOR: return (2 * calm + hand) / 3;
                default: return hand;
            }
        }

        /** False: the band FIRES OUT at this row. */
        boolean ringRow(int n, int row, int r, int seed) {
            if (begun >= MOST_RUNG) return false;
            int k = begun++, greatest = 0;
            rungRows[k] = row;
            blownIn[k] = 0;
            for (int p = 0; p < n; p++) {
                int bell = Rows.at(n, row, p) + 1;
                int time = 20 * (n * r + p + 1 + r / 2) + offset(bell, draw(bell, r, seed));
                times[k * MOST_BELLS + p] = time;
                blownIn[k]++;
                blown++;
                if (p == 0 || time > greatest) greatest = time;
                else if (losesItself(bell)) return getsWords(n, bell);
            }
            return true;
        }

        private boolean losesItself(int bell) {
            clashes++;
            slipped[bell]++;
            return kinds[bell] == LEARNER && slipped[bell] >= LOST_SLIPS;
        }

        private boolean getsWords(int n, int learner) {
            lost = learner;
            if (words >= MOST_WORDS || !hasConductor(n)) return false;
            words++;
            slipped[learner] = 0;
            return true;
        }

        private boolean hasConductor(int n) {
            for (int bell = 1; bell <= n; bell++) {
                if (kinds[bell] == CONDUCTOR || kinds[bell] == TENOR) return true;
            }
            return false;
        }

        int timeOf(int n, int k, int bell) {
            if (k < 0 || k >= begun) return NOT_BLOWN;
            int place = Rows.placeOf(n, rungRows[k], bell - 1);
            return place < blownIn[k] ? times[k * MOST_BELLS + place] : NOT_BLOWN;
        }
    }

    private static final class Recording {
        final int[] bellOf = new int[MOST_BLOWS];
        private final long[] timeOf = new long[MOST_BLOWS];
        final int[] order = new int[MOST_BLOWS];
        final long[] errors = new long[MOST_BLOWS];
        int count = 0;
        int known = 0;
        private boolean isLaid = false;
        long gap = 0;
        long lead = 0;
        long greatest = 0;
        long root = 0;

        void erase() {
            count = 0;
            known = 0;
            isLaid = false;
        }

        int add(int bell, long bits) {
            if (count >= MOST_BLOWS) return FULL;
            bellOf[count] = bell;
            timeOf[count] = bits;
            if (!Reals.isNaN(bits)) putInOrder(count);
            return count++;
        }

        private void putInOrder(int blow) {
            int i = known++;
            while (i > 0 && Reals.isLess(timeOf[blow], timeOf[order[i - 1]])) {
                order[i] = order[i - 1];
                i--;
            }
            order[i] = blow;
            isLaid = false;
        }

        long timeInOrder(int i) {
            return timeOf[order[i]];
        }

        int rowHeard(int n, int k) {
            int number = 0, seen = 0;
            for (int i = k * n; i < k * n + n; i++) {
                int bell = bellOf[order[i]];
                if ((seen >>> bell & 1) != 0) return 0;
                seen |= 1 << bell;
                number = number * 10 + bell;
            }
            return number;
        }

        /** Lays THE LINE, once for all calls that ask for it until a blow comes. */
        void lay() {
            if (isLaid) return;
            isLaid = true;
            long s = 0, p = 0;
            int squares = 0;
            for (int i = 0; i < known; i++) {
                long t = timeInOrder(i);
                s = Reals.add(s, t);
                p = Reals.add(p, Reals.multiply(Reals.fromInt(i), t));
                squares += i * i;
            }
            long m = Reals.fromInt(known), a = Reals.fromInt(known * (known - 1) / 2), b = Reals.fromInt(squares);
            long above = Reals.subtract(Reals.multiply(m, p), Reals.multiply(a, s));
            long below = Reals.subtract(Reals.multiply(m, b), Reals.multiply(a, a));
            gap = Reals.divide(above, below);
            lead = Reals.divide(Reals.subtract(s, Reals.multiply(gap, a)), m);
            measureErrors(m);
        }

        private void measureErrors(long m) {
            long sum = 0;
            greatest = 0;
            for (int i = 0; i < known; i++) {
                long onLine = Reals.add(lead, Reals.multiply(gap, Reals.fromInt(i)));
                long error = Reals.subtract(timeInOrder(i), onLine);
                errors[i] = error;
                greatest = Reals.greater(greatest, Reals.size(error));
                sum = Reals.add(sum, Reals.multiply(error, error));
            }
            root = Reals.root(Reals.divide(sum, m));
        }

        long placeOnLine(int i) {
            return Reals.whole(Reals.divide(Reals.subtract(timeInOrder(i), lead), gap));
        }
    }

    /** The boards. Every item is a long: a double as its BITS, a LINE as its row and whether it is CALLED. */
    private static final class Shelf {
        static final int NOTHING = -1, BYTES = 0, INTS = 1, DOUBLES = 2, LINES = 3, CALLED_LINES = 4;
        static final long NO_LINE = 0;

        final int[] sorts = new int[BOARDS];
        final int[] sizes = new int[BOARDS];
        final long[][] items = new long[BOARDS][MOST_ITEMS];

        void sweep() {
            Arrays.fill(sorts, NOTHING);
        }

        void lay(int b, int sort, int n) {
            sorts[b] = sort;
            sizes[b] = n;
            Arrays.fill(items[b], 0L);
        }

        boolean holdsNothing(int b) {
            return sorts[b] == NOTHING;
        }

        static boolean isOfLines(int sort) {
            return sort == LINES || sort == CALLED_LINES;
        }

        /** Never NO_LINE: a packed row is not 0. */
        static long lineOf(int row, boolean called) {
            return (long) row << 1 | (called ? 1 : 0);
        }

        static int rowOfLine(long line) {
            return (int) (line >>> 1);
        }

        boolean takes(int b, long value) {
            return sorts[b] != CALLED_LINES || value == NO_LINE || (value & 1) != 0;
        }

        boolean readsAs(int b, int sort) {
            return sorts[b] == sort || sorts[b] == CALLED_LINES && sort == LINES;
        }

        int copyItems(int a, int i, int b, int j, int n) {
            if (holdsNothing(a) || holdsNothing(b)) return NULL;
            if (sorts[a] != sorts[b] && !(isOfLines(sorts[a]) && isOfLines(sorts[b]))) return STORE;
            if (i < 0 || j < 0 || n < 0 || n > sizes[a] - i || n > sizes[b] - j) return INDEX;
            if (sorts[a] == sorts[b]) System.arraycopy(items[a], i, items[b], j, n);
            else return copyLines(a, i, b, j, n);
            return 0;
        }

        /** One by one, for a LINE may be refused; the boards are two, as their sorts differ. */
        private int copyLines(int a, int i, int b, int j, int n) {
            for (int k = 0; k < n; k++) {
                long value = items[a][i + k];
                if (!takes(b, value)) return STORE;
                items[b][j + k] = value;
            }
            return 0;
        }
    }

    /**
     * Doubles as their BITS, reckoned in whole numbers: the language of this file has no way from BITS to a double
     * and back, no root, and no operation that may answer NaN. Every answer is rounded as the machine rounds.
     */
    private static final class Reals {
        private static final long NAN = 0x7ff8000000000000L, INFINITY = 0x7ff0000000000000L;
        private static final long SIGN = 0x8000000000000000L, FRACTION = 0x000fffffffffffffL;
        private static final long LEADING = 0x0010000000000000L, TOP = 0x4000000000000000L;
        private static final int LEAST_EXPONENT = -1074;
        private static final long LOW_27 = 0x7ffffffL, LOW_17 = 0x1ffffL;

        static long size(long a) {
            return a & ~SIGN;
        }

        static boolean isNaN(long a) {
            return size(a) > INFINITY;
        }

        private static boolean isInfinite(long a) {
            return size(a) == INFINITY;
        }

        private static boolean isZero(long a) {
            return size(a) == 0;
        }

        /** Rises as the numbers do, with both zeros at 0. */
        private static long level(long a) {
            return a < 0 ? -size(a) : a;
        }

        static boolean isLess(long a, long b) {
            return level(a) < level(b);
        }

        /** The greater of two that are not below zero; NaN wins. */
        static long greater(long a, long b) {
            return isNaN(a) || isNaN(b) ? NAN : Math.max(a, b);
        }

        private static int exponentField(long a) {
            return (int) (a >>> 52) & 0x7ff;
        }

        /** A finite number is its significand times two to its exponent. */
        private static long significand(long a) {
            return exponentField(a) == 0 ? a & FRACTION : a & FRACTION | LEADING;
        }

        private static int exponent(long a) {
            return Math.max(exponentField(a), 1) - 1 + LEAST_EXPONENT;
        }

        /** How far a significand above 0 must go left to have its 53 bits. */
        private static int missingBits(long significand) {
            int missing = 0;
            while (missing < 52 && significand << missing < LEADING) missing++;
            return missing;
        }

        /** A shift whose lowest bit remembers whether ones fell out: rounding needs no more of them. */
        private static long shiftedRight(long a, int by) {
            if (by <= 0) return a;
            if (by > 62) return a == 0 ? 0 : 1;
            return a >>> by | (a << 64 - by == 0 ? 0 : 1);
        }

        /** Rounds a number above 0 to the nearest double, of two to the even one. */
        private static long rounded(long sign, int exponent, long number) {
            long bits = number;
            int field = exponent + 62 + 1023;
            for (int i = 0; i < 62 && bits < TOP; i++) {
                bits <<= 1;
                field--;
            }
            if (field >= 0x7ff) return sign | INFINITY;
            if (field <= 0) {
                bits = shiftedRight(bits, 1 - field);
                field = 1;
            }
            long kept = bits >>> 10, rest = bits & 1023;
            if (rest > 512 || rest == 512 && (kept & 1) != 0) kept++;
            // kept has the leading bit, which adds the 1 that is taken off the field here
            return sign | ((long) (field - 1) << 52) + kept;
        }

        static long fromInt(int a) {
            if (a == 0) return 0;
            return rounded(a < 0 ? SIGN : 0, -30, Math.abs((long) a) << 30);
        }

        static long add(long a, long b) {
            if (isNaN(a) || isNaN(b)) return NAN;
            if (isInfinite(a)) return isInfinite(b) && a != b ? NAN : a;
            if (isInfinite(b)) return b;
            if (a == SIGN && b == SIGN) return SIGN;
            int exponent = Math.max(exponent(a), exponent(b));
            long sum = aligned(a, exponent) + aligned(b, exponent);
            return sum == 0 ? 0 : rounded(sum & SIGN, exponent - 9, Math.abs(sum));
        }

        private static long aligned(long a, int exponent) {
            long bits = shiftedRight(significand(a) << 9, exponent - exponent(a));
            return a < 0 ? -bits : bits;
        }

        static long subtract(long a, long b) {
            return add(a, b ^ SIGN);
        }

        static long multiply(long a, long b) {
            long sign = (a ^ b) & SIGN;
            if (isNaN(a) || isNaN(b)) return NAN;
            if (isInfinite(a) || isInfinite(b)) return isZero(a) || isZero(b) ? NAN : sign | INFINITY;
            if (isZero(a) || isZero(b)) return sign;
            long x = significand(a), y = significand(b);
            int missingX = missingBits(x), missingY = missingBits(y);
            int exponent = exponent(a) - missingX + exponent(b) - missingY;
            return rounded(sign, exponent + 44, highProduct(x << missingX, y << missingY));
        }

        /** The product of two of 53 bits, less its lowest 44 bits, of which the lowest bit that is kept remembers ones. */
        private static long highProduct(long x, long y) {
            long xHigh = x >>> 27, xLow = x & LOW_27, yHigh = y >>> 27, yLow = y & LOW_27;
            long low = xLow * yLow;
            long middle = xHigh * yLow + xLow * yHigh + (low >>> 27);
            long high = xHigh * yHigh + (middle >>> 27);
            long fallen = middle & LOW_17 | low & LOW_27;
            return high << 10 | (middle & LOW_27) >>> 17 | (fallen == 0 ? 0 : 1);
        }

        static long divide(long a, long b) {
            long sign = (a ^ b) & SIGN;
            if (isNaN(a) || isNaN(b)) return NAN;
            if (isInfinite(a)) return isInfinite(b) ? NAN : sign | INFINITY;
            if (isInfinite(b)) return sign;
            if (isZero(b)) return isZero(a) ? NAN : sign | INFINITY;
            if (isZero(a)) return sign;
            long x = significand(a), y = significand(b);
            int missingX = missingBits(x), missingY = missingBits(y);
            int exponent = exponent(a) - missingX - exponent(b) + missingY;
            return rounded(sign, exponent - 60, quotient(x << missingX, y << missingY));
        }

        /** Two to the 60th times x / y, the lowest bit remembering a remainder. */
        private static long quotient(long x, long y) {
            if (y <= 0) return 1;
            long quotient = x / y, rest = x % y;
            for (int i = 0; i < 6; i++) {
                rest <<= 10;
                quotient = quotient << 10 | rest / y;
                rest %= y;
            }
            return quotient | (rest == 0 ? 0 : 1);
        }

        static long root(long a) {
            if (isNaN(a)) return NAN;
            if (isZero(a)) return a;
            if (a < 0) return NAN;
            if (isInfinite(a)) return a;
            long x = significand(a);
            int missing = missingBits(x), exponent = exponent(a) - missing;
            x <<= missing;
            if ((exponent & 1) != 0) {
                x <<= 1;
                exponent--;
            }
            return rounded(0, (exponent - 58) / 2 - 1, longRoot(x));
        }

        /** Two to the 30th times the root of x (54 bits), by hand: two bits of x give one of the root. */
        private static long longRoot(long x) {
            long root = 0, rest = 0;
            for (int i = 0; i < 56; i++) {
                long two = i < 27 ? x >>> 52 - 2 * i & 3 : 0;
                rest = rest << 2 | two;
                long trial = root << 2 | 1;
                root <<= 1;
                if (rest >= trial) {
                    rest -= trial;
                    root |= 1;
                }
            }
            return root << 1 | (rest == 0 ? 0 : 1);
        }

        /** The nearest whole number, of two the even one, with the sign kept. */
        static long whole(long a) {
            if (isNaN(a)) return NAN;
            int field = exponentField(a);
            if (field >= 1075) return a;
            if (field < 1022) return a & SIGN;
            // from a half up to below one: only the half itself has the even number, 0, for its nearest
            if (field == 1022) return (a & FRACTION) == 0 ? a & SIGN : a & SIGN | 0x3ff0000000000000L;
            long one = 1L << 1075 - field;
            long up = a + (one >>> 1);
            return (up & one - 1) == 0 ? up & ~one : up & ~(one - 1);
        }
    }
}
