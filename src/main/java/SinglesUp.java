import java.util.Arrays;

/** Chairs that go up a hill and the lines before them: ../shared/DOC.md tells what each call does. */
public final class SinglesUp {
    public static final int NONE = -1;

    // The answer where -1 may be a true one.
    private static final int NOTHING = NONE - 999999;

    private static final int LINES = 6;
    private static final int PLACES = 40;
    private static final int SPOTS = LINES * PLACES;
    private static final int MOST_SEEN = 24;
    private static final int IN_SIGHT = LINES * MOST_SEEN;
    private static final int MOST_SEATS = 8;
    private static final int MOST_SIZE = 8;
    private static final int RULES = 4;
    private static final int THE_LINES = 4;
    private static final int COMERS = 8;
    private static final int MOST_HEAP = 12;
    private static final int THOUSAND = 1000;
    private static final int AHEAD = 40;
    private static final int PAST_CHAIRS = 60;

    // Numbered as set() and told() number them.
    private static final int SEATS = 0;
    private static final int SECONDS = 1;
    private static final int HALT = 2;
    private static final int FALLS = 3;
    private static final int BOUND = 4;
    private static final int RULE = 5;
    private static final int[] LEAST = {2, 1, 0, 0, 0, 0};
    private static final int[] MOST = {8, 99, 999, 1000, 99, 3};

    // Numbered as count() numbers them.
    private static final int CHAIRS = 0;
    private static final int EMPTY = 1;
    private static final int PEOPLE = 2;
    private static final int TIME = 3;
    private static final int STOPS = 4;
    private static final int FOUND = 5;
    private static final int AWAY = 6;
    private static final int GONE = 10;
    private static final int WAIT = 20;
    private static final int LONGEST = 30;
    private static final int MEAN = 40;

    // Numbered as group() numbers them.
    private static final int NUMBER = 0;
    private static final int SIZE = 1;
    private static final int SAYS = 2;
    private static final int SORT = 3;
    private static final int WAITED = 4;
    private static final int PASSED = 5;
    private static final int WIDTH = 6;
    private static final int WORTH = 6;

    private static final int PLAIN = 0;
    private static final int CHILDREN = 1;
    private static final int DEAR = 2;
    private static final int ALONE = 3;

    private final Hill hill = new Hill();
    private final Hill kept = new Hill();
    private final Mind mind = new Mind();
    private final Chair chair = new Chair();
    private final Chair hand = new Chair();
    private final Reader reader = new Reader();
    private final Filling filling = new Filling();
    private final Packer packer = new Packer();
    private boolean imageTaken;

    public SinglesUp() {
    }

    public int state(int v) {
        int before = hill.state;
        hill.state = v;
        return before;
    }

    public boolean set(int what, int v) {
        if (!canTell(what, v)) {
            return false;
        }
        hill.told[what] = v;
        if (what == SEATS) {
            hand.clear(v);
        }
        return true;
    }

    public boolean seen(int line, int n) {
        if (!isLine(line) || n < 1 || n > MOST_SEEN) {
            return false;
        }
        hill.lines.sights[line] = n;
        return true;
    }

    public boolean parts(int size, int part) {
        if (size < 2 || size > MOST_SIZE || part < 0 || part >= size) {
            return false;
        }
        hill.partings[size] = part;
        return true;
    }

    public boolean comer(int k, int size, int says, int sort, int chance) {
        if (k < 0 || k >= COMERS || !canBe(size, says, sort) || chance < 0 || chance > THOUSAND) {
            return false;
        }
        hill.tellComer(k, size, says, sort, chance);
        return true;
    }

    public int feed(int a, int b, int c, int d, int e) {
        if (!reader.hasRoomForFive()) {
            return NONE;
        }
        reader.take(a);
        reader.take(b);
        reader.take(c);
        reader.take(d);
        reader.take(e);
        return reader.length;
    }

    public boolean end(int n) {
        return reader.cut(n);
    }

    public int text(int k) {
        if (k < 0 || k > THE_LINES) {
            reader.forget();
            return NONE;
        }
        if (!reader.understand(k == THE_LINES)) {
            return NONE;
        }
        hill.laws[k].copyFrom(reader.draft);
        return reader.draft.lines;
    }

    public int fault(int what) {
        if (what == 0) {
            return reader.fault;
        }
        return what == 1 ? reader.place : NONE;
    }

    public int come(int size, int says, int sort) {
        return canBe(size, says, sort) ? hill.enter(size, says, sort) : NONE - 1;
    }

    public int group(int line, int place, int what) {
        if (!isLine(line) || place < 0 || place >= PLACES || what < NUMBER || what > WORTH) {
            return NOTHING;
        }
        if (!hill.lines.has(line, place)) {
            return NONE;
        }
        int spot = line * PLACES + place;
        if (what != WORTH) {
            return hill.lines.get(spot, what);
        }
        hill.weigh(spot, hill.told[SEATS], 0);
        return hill.lawInForce().value(hill.facts);
    }

    public int line(int line, int what) {
        if (!isLine(line) || what < 0 || what > 1) {
            return NONE;
        }
        return what == 0 ? hill.lines.counts[line] : hill.lines.people(line);
    }

    public int pick(int line, int place) {
        return hand.judge(hill, line, place);
    }

    public int send() {
        int people = hand.leave(hill);
        dropPicked();
        return people;
    }

    public int chair() {
        dropPicked();
        return chair.ride(hill);
    }

    public int run(int n) {
        if (n < 1 || n > 60) {
            return NONE;
        }
        dropPicked();
        return chair.turns(hill, n);
    }

    public int last(int what) {
        if (what < 0 || what >= hill.latest.length || hill.tally[CHAIRS] == 0) {
            return NONE;
        }
        boolean told = what < 10 ? what < 2 : what % 10 < hill.latest[0];
        return told ? hill.latest[what] : NONE;
    }

    public int count(int what) {
        if (what >= CHAIRS && what <= AWAY) {
            return hill.tally[what];
        }
        int size = what % 10;
        if (what < GONE || what > MEAN + MOST_SIZE || size < 1 || size > MOST_SIZE) {
            return NONE;
        }
        return what < MEAN ? hill.tally[what] : hill.meanWait(size);
    }

    public int best(int what) {
        if (what < 0) {
            return NONE;
        }
        int seats = filling.fillMost(hill, NONE);
        if (what < 10) {
            return what == 0 ? seats : what == 1 ? filling.count : NONE;
        }
        return filling.chosenAt(what - 10);
    }

    public int look(int line) {
        if (!isLine(line) || hill.lines.sights[line] >= MOST_SEEN) {
            return NONE;
        }
        return filling.fillMost(hill, line) - filling.fillMost(hill, NONE);
    }

    public boolean heap(int size, int n) {
        if (size < 1 || size > MOST_SIZE || n < 0 || n > 9) {
            return false;
        }
        int all = n - hill.heap[size];
        for (int i = 1; i < hill.heap.length; i++) {
            all += hill.heap[i];
        }
        if (all > MOST_HEAP) {
            return false;
        }
        hill.heap[size] = n;
        return true;
    }

    public int fewest(int what) {
        if (what < 0 || what > MOST_SIZE) {
            return NONE;
        }
        int chairs = packer.pack(hill.heap, hill.told[SEATS]);
        return what == 0 || chairs == NONE ? chairs : packer.inFirst(what);
    }

    public int thought(int rule, int bound, int seats, int n, int what) {
        if (!canTell(RULE, rule) || !canTell(BOUND, bound) || !canTell(SEATS, seats)) {
            return NONE;
        }
        if (n < 1 || n > AHEAD || what < 0 || what > 5) {
            return NONE;
        }
        mind.imagine(hill, rule, bound, seats, n);
        return mind.gained(hill, what);
    }

    public int price(int bound, int n) {
        if (!canTell(BOUND, bound) || n < 1 || n > AHEAD) {
            return NOTHING;
        }
        int rule = hill.told[RULE];
        int seats = hill.told[SEATS];
        mind.imagine(hill, rule, bound, seats, n);
        int with = mind.gained(hill, 0);
        mind.imagine(hill, rule, 0, seats, n);
        return with - mind.gained(hill, 0);
    }

    public int till(int line, int place) {
        return hill.lines.has(line, place) ? mind.tillSits(hill, line * PLACES + place) : NONE;
    }

    public int together(int line, int place, int line2, int place2, int what) {
        if (what < 0 || what > 1 || !hill.lines.has(line, place) || !hill.lines.has(line2, place2)) {
            return NONE - 1;
        }
        int first = line * PLACES + place;
        int second = line2 * PLACES + place2;
        if (!hill.lines.canJoin(first, second)) {
            return NONE - 1;
        }
        int joined = mind.tillJoined(hill, first, second);
        if (what == 0) {
            return joined;
        }
        int one = mind.tillSits(hill, first);
        int other = mind.tillSits(hill, second);
        return joined != NONE && one != NONE && other != NONE && joined <= Math.max(one, other) ? 1 : 0;
    }

    public int needed(int n) {
        return n < 1 || n > AHEAD ? NONE : mind.emptyNeeded(hill, n);
    }

    public int past(int i, int what) {
        boolean told = i >= 0 && i < PAST_CHAIRS && i < hill.tally[CHAIRS] && what >= 0 && what <= 2;
        return told ? hill.pastChair(i, what) : NONE;
    }

    public int which(int n, int what) {
        return n < 1 || n > 20 || what < 0 || what > 2 ? NONE : mind.bestSet(hill, n, what);
    }

    public int folded(int line, int w, int place) {
        if (!isLine(line) || w < 1 || w > 40 || place < NONE || place >= hill.lines.counts[line]) {
            return NONE;
        }
        return hill.lines.rowOf(line, w, place);
    }

    public boolean image(boolean taken) {
        if (taken) {
            kept.copyFrom(hill);
            imageTaken = true;
        } else if (imageTaken) {
            hill.copyFrom(kept);
            dropPicked();
        }
        return imageTaken;
    }

    public int told(int what) {
        if (what >= SEATS && what <= RULE) {
            return hill.told[what];
        }
        switch (what) {
            case 6:
                return hand.taken;
            case 7:
                return hill.came;
            case 8:
                return hill.state;
            default:
                return NONE;
        }
    }

    private void dropPicked() {
        hand.clear(hill.told[SEATS]);
    }

    private static boolean isLine(int line) {
        return line >= 0 && line < LINES;
    }

    private static boolean canTell(int what, int v) {
        return what >= SEATS && what <= RULE && v >= LEAST[what] && v <= MOST[what];
    }

    private static boolean canBe(int size, int says, int sort) {
        return size >= 1 && size <= MOST_SIZE && says >= 1 && says <= size && sort >= PLAIN && sort <= ALONE;
    }

    /** The TAPE, and how a TEXT on it is understood. */
    private static final class Reader {
        private static final int TAPE = 400;
        private static final int MOST_OPEN = 8;

        // A word's number here is its token's kind; Law knows by the same number what is to be weighed.
        private static final String WORDS =
            "take when or and not short first size sort left place line passed waited taken behind ";
        private static final int TAKE = 0;
        private static final int WHEN = 1;
        private static final int OR = 2;
        private static final int AND = 3;
        private static final int NOT = 4;

        // The other kinds; a sign's kind is its byte.
        private static final String SIGNS = ";+-*/()<=>";
        private static final int DIGITS = 16;
        private static final int STOP = 17;
        private static final int WRONG = 18;

        private final int[] tape = new int[TAPE];
        private int length;
        private final int[] kinds = new int[TAPE + 1];
        private final int[] places = new int[TAPE + 1];
        private final int[] values = new int[TAPE + 1];
        private int tokens;
        private int at;
        private int kind;
        private int value;
        private boolean forLines;
        private int fault;
        private int place = NONE;
        private final Law draft = new Law();

        boolean hasRoomForFive() {
            return length <= TAPE - 20;
        }

        void take(int number) {
            for (int shift = 24; shift >= 0; shift -= 8) {
                if (length >= 0 && length < TAPE) {
                    tape[length] = number >>> shift & 255;
                    length++;
                }
            }
        }

        boolean cut(int n) {
            if (n < 0 || n > length) {
                return false;
            }
            length = n;
            return true;
        }

        void forget() {
            length = 0;
            fault = 0;
            place = NONE;
        }

        /** Makes the draft of the TAPE, which is empty then; false if there is a FAULT. */
        boolean understand(boolean theLines) {
            scan();
            forget();
            forLines = theLines;
            draft.clear();
            at = -1;
            advance();
            for (int i = 0; i < TAPE && fault == 0 && kind != STOP; i++) {
                readLine();
            }
            return fault == 0;
        }

        private void scan() {
            tokens = 0;
            int i = 0;
            while (i < length && i < TAPE) {
                int from = i;
                int sign = tape[i];
                i++;
                if (isLetter(sign)) {
                    while (i < length && i < TAPE && isLetter(tape[i])) {
                        i++;
                    }
                    addToken(wordAt(from, i), from, 0);
                } else if (isDigit(sign)) {
                    while (i < length && i < TAPE && isDigit(tape[i])) {
                        i++;
                    }
                    addToken(i - from > 4 ? WRONG : DIGITS, from, numberAt(from, i));
                } else if (sign != ' ' && sign != '\n') {
                    addToken(SIGNS.indexOf((char) sign) >= 0 ? sign : WRONG, from, 0);
                }
            }
            addToken(STOP, length, 0);
        }

        private static boolean isLetter(int sign) {
            return sign >= 'a' && sign <= 'z' || sign >= 'A' && sign <= 'Z';
        }

        private static boolean isDigit(int sign) {
            return sign >= '0' && sign <= '9';
        }

        private void addToken(int sort, int from, int number) {
            if (tokens >= 0 && tokens <= TAPE) {
                kinds[tokens] = sort;
                places[tokens] = from;
                values[tokens] = number;
                tokens++;
            }
        }

        private int wordAt(int from, int to) {
            int word = 0;
            int i = from;
            boolean same = true;
            for (int w = 0; w < WORDS.length(); w++) {
                char letter = WORDS.charAt(w);
                if (letter == ' ') {
                    if (same && i == to) {
                        return word;
                    }
                    word++;
                    i = from;
                    same = true;
                } else if (same && i >= 0 && i < to && i < TAPE && tape[i] == letter) {
                    i++;
                } else {
                    same = false;
                }
            }
            return WRONG;
        }

        private int numberAt(int from, int to) {
            int number = 0;
            for (int i = Math.max(from, 0); i < to && i < TAPE; i++) {
                number = 10 * number + tape[i] - '0';
            }
            return number;
        }

        private void advance() {
            int next = at + 1;
            if (fault == 0 && next >= 0 && next <= TAPE && next < tokens) {
                at = next;
                kind = kinds[next];
                value = values[next];
            }
        }

        private void fail(int what) {
            if (fault == 0 && at >= 0 && at <= TAPE) {
                fault = what;
                place = places[at];
            }
        }

        private void expect(int due) {
            if (kind == due) {
                advance();
            } else {
                fail(1);
            }
        }

        private void readLine() {
            int keyword = forLines ? Law.LINE : TAKE;
            if (kind == keyword && draft.isFull()) {
                fail(3);
            }
            expect(keyword);
            if (forLines) {
                readTarget();
            } else {
                readSum();
            }
            draft.startWhen();
            if (forLines || kind == WHEN) {
                expect(WHEN);
                readEither(0);
            }
            expect(';');
            draft.closeLine();
        }

        private void readTarget() {
            if (kind == DIGITS && value >= LINES) {
                fail(2);
            }
            draft.addStep(value);
            expect(DIGITS);
        }

        /** B, with so many ( and not open: its As wait for their "or" until their Cs are read. */
        private void readEither(int open) {
            boolean either = false;
            readTest(open);
            for (int i = 0; i < TAPE && fault == 0 && (kind == OR || kind == AND); i++) {
                boolean both = kind == AND;
                advance();
                if (either && !both) {
                    draft.addStep(Law.EITHER);
                }
                readTest(open);
                if (both) {
                    draft.addStep(Law.BOTH);
                } else {
                    either = true;
                }
            }
            if (either) {
                draft.addStep(Law.EITHER);
            }
        }

        /** C, with so many ( and not open. */
        private void readTest(int open) {
            if (fault != 0) {
                return;
            }
            boolean opens = kind == NOT || kind == '(';
            if (opens && open >= MOST_OPEN) {
                fail(3);
            } else if (kind == NOT) {
                advance();
                readTest(open + 1);
                draft.addStep(Law.NOT_SO);
            } else if (opens) {
                advance();
                readEither(open + 1);
                expect(')');
            } else {
                readSum();
                int sign = kind;
                expect(sign == '<' || sign == '>' ? sign : '=');
                readSum();
                draft.addStep(sign == '<' ? Law.LESS : sign == '>' ? Law.MORE : Law.SAME);
            }
        }

        /** E: its Ts wait for their + or - until their Us are read. */
        private void readSum() {
            int waiting = 0;
            readUnit();
            for (int i = 0; i < TAPE && fault == 0; i++) {
                int sign = kind;
                if (sign == '*') {
                    advance();
                    readUnit();
                    draft.addStep(Law.TIMES);
                } else if (sign == '/') {
                    advance();
                    readDivisor();
                } else if (sign == '+' || sign == '-') {
                    advance();
                    if (waiting != 0) {
                        draft.addStep(waiting);
                    }
                    waiting = sign == '+' ? Law.PLUS : Law.MINUS;
                    readUnit();
                } else {
                    break;
                }
            }
            if (waiting != 0) {
                draft.addStep(waiting);
            }
        }

        private void readUnit() {
            int from = forLines ? Law.SHORT : Law.SIZE;
            int to = forLines ? Law.SORT : Law.BEHIND;
            if (kind == DIGITS) {
                draft.addStep(value);
                advance();
            } else if (kind >= from && kind <= to) {
                draft.addStep(Law.FACTS_FROM + kind);
                advance();
            } else {
                fail(1);
            }
        }

        private void readDivisor() {
            if (kind != DIGITS) {
                fail(1);
            } else if (value == 0) {
                fail(2);
            } else {
                draft.addStep(value);
                draft.addStep(Law.BY);
                advance();
            }
        }
    }

    /** A TEXT understood: of each line the steps of its E, then those of its B, if it has one. */
    private static final class Law {
        private static final int MOST_LINES = 16;
        private static final int MOST_STEPS = 400;

        // What can be weighed, numbered as the Reader numbers the words.
        private static final int FACTS = 16;
        private static final int SHORT = 5;
        private static final int FIRST = 6;
        private static final int SIZE = 7;
        private static final int SORT = 8;
        private static final int LEFT = 9;
        private static final int PLACE = 10;
        private static final int LINE = 11;
        private static final int PASSED = 12;
        private static final int WAITED = 13;
        private static final int TAKEN = 14;
        private static final int BEHIND = 15;

        // A step below this is a NUMBER (of 4 digits at most), one from here a fact, one below 0 a sign.
        private static final int FACTS_FROM = 10000;
        private static final int PLUS = -1;
        private static final int MINUS = -2;
        private static final int TIMES = -3;
        private static final int BY = -4;
        private static final int LESS = -5;
        private static final int SAME = -6;
        private static final int MORE = -7;
        private static final int BOTH = -8;
        private static final int EITHER = -9;
        private static final int NOT_SO = -10;

        private final int[] steps = new int[MOST_STEPS];
        private int length;
        private final int[] begins = new int[MOST_LINES + 1];
        private final int[] whens = new int[MOST_LINES];
        private int lines;
        // With eight ( open some twenty numbers wait at most.
        private final int[] stack = new int[64];

        void clear() {
            length = 0;
            lines = 0;
        }

        boolean isFull() {
            return lines >= MOST_LINES;
        }

        void addStep(int step) {
            if (length >= 0 && length < MOST_STEPS) {
                steps[length] = step;
                length++;
            }
        }

        void startWhen() {
            if (lines >= 0 && lines < MOST_LINES) {
                whens[lines] = length;
            }
        }

        void closeLine() {
            if (lines >= 0 && lines < MOST_LINES) {
                lines++;
                begins[lines] = length;
            }
        }

        void copyFrom(Law other) {
            length = other.length;
            lines = other.lines;
            System.arraycopy(other.steps, 0, steps, 0, MOST_STEPS);
            System.arraycopy(other.begins, 0, begins, 0, MOST_LINES + 1);
            System.arraycopy(other.whens, 0, whens, 0, MOST_LINES);
        }

        /** E of the first line whose B is so, 0 without one. */
        int value(int[] facts) {
            for (int i = 0; i < lines && i < MOST_LINES; i++) {
                int when = whens[i];
                int stop = begins[i + 1];
                if (when == stop || reckon(when, stop, facts) != 0) {
                    return reckon(begins[i], when, facts);
                }
            }
            return 0;
        }

        private int reckon(int from, int to, int[] facts) {
            int top = -1;
            for (int i = from; i >= 0 && i < to && i < MOST_STEPS; i++) {
                int step = steps[i];
                int fact = step - FACTS_FROM;
                top += step >= 0 ? 1 : step == NOT_SO ? 0 : -1;
                if (top < 0 || top + 1 >= stack.length || fact >= facts.length) {
                    return 0;
                }
                int a = stack[top];
                int b = stack[top + 1];
                switch (step) {
                    case PLUS:
                        stack[top] = a + b;
                        break;
                    case MINUS:
                        stack[top] = a - b;
                        break;
                    case TIMES:
                        stack[top] = a * b;
                        break;
                    case BY:
                        stack[top] = b == 0 ? 0 : a / b;
                        break;
                    case LESS:
                        stack[top] = a < b ? 1 : 0;
                        break;
                    case SAME:
                        stack[top] = a == b ? 1 : 0;
                        break;
                    case MORE:
                        stack[top] = a > b ? 1 : 0;
                        break;
                    case BOTH:
                        stack[top] = a & b;
                        break;
                    case EITHER:
                        stack[top] = a | b;
                        break;
                    case NOT_SO:
                        stack[top] = 1 - a;
                        break;
                    default:
                        stack[top] = fact < 0 ? step : facts[fact];
                        break;
                }
            }
            return top >= 0 ? stack[top] : 0;
        }
    }

    /** The LINES: each has forty spots, numbered on from those of the LINES before it. */
    private static final class Lines {
        private final int[] rows = new int[SPOTS * WIDTH];
        private final int[] counts = new int[LINES];
        private final int[] sights = new int[LINES];

        Lines() {
            Arrays.fill(sights, 9);
        }

        void copyFrom(Lines other) {
            System.arraycopy(other.rows, 0, rows, 0, rows.length);
            System.arraycopy(other.counts, 0, counts, 0, LINES);
            System.arraycopy(other.sights, 0, sights, 0, LINES);
        }

        boolean has(int line, int place) {
            return isLine(line) && place >= 0 && place < counts[line];
        }

        int countOf(int line) {
            return isLine(line) ? Math.min(counts[line], PLACES) : 0;
        }

        boolean isSeen(int line, int place) {
            return has(line, place) && place < sights[line];
        }

        /** The spots that are SEEN, in their order, with one more of a LINE (or NONE): how many. */
        int listSeen(int[] spots, int longer) {
            int seen = 0;
            for (int line = 0; line < LINES; line++) {
                int sight = Math.min(counts[line], sights[line] + (line == longer ? 1 : 0));
                for (int place = 0; place < sight; place++) {
                    if (seen < spots.length) {
                        spots[seen] = line * PLACES + place;
                        seen++;
                    }
                }
            }
            return seen;
        }

        int get(int spot, int what) {
            int at = spot * WIDTH + what;
            return at >= 0 && at < rows.length ? rows[at] : 0;
        }

        void put(int spot, int what, int v) {
            int at = spot * WIDTH + what;
            if (at >= 0 && at < rows.length) {
                rows[at] = v;
            }
        }

        /** A group goes behind a LINE, its row copied; false if the LINE is full. */
        boolean append(int line, int[] row, int from) {
            if (!isLine(line) || counts[line] >= PLACES || from < 0 || from > row.length - WIDTH) {
                return false;
            }
            int spot = line * PLACES + counts[line];
            System.arraycopy(row, from, rows, spot * WIDTH, WIDTH);
            counts[line]++;
            return true;
        }

        void remove(int spot) {
            int line = spot / PLACES;
            int place = spot % PLACES;
            if (has(line, place)) {
                int behind = counts[line] - place - 1;
                System.arraycopy(rows, (spot + 1) * WIDTH, rows, spot * WIDTH, behind * WIDTH);
                counts[line]--;
            }
        }

        /** The marked ones go as a chair goes; the others have waited, and were passed by who sits from behind. */
        void depart(int[] marks) {
            for (int line = 0; line < LINES; line++) {
                int rearmost = rearmostSitting(marks, line);
                int left = 0;
                for (int place = 0; place < counts[line] && place < PLACES; place++) {
                    int spot = line * PLACES + place;
                    int mark = spot < marks.length ? marks[spot] : Chair.STANDS;
                    if (mark == Chair.STANDS || mark == Chair.PARTED) {
                        int to = line * PLACES + left;
                        System.arraycopy(rows, spot * WIDTH, rows, to * WIDTH, WIDTH);
                        put(to, WAITED, get(to, WAITED) + 1);
                        put(to, PASSED, get(to, PASSED) + (place < rearmost ? 1 : 0));
                        left++;
                    }
                }
                counts[line] = left;
            }
        }

        private int rearmostSitting(int[] marks, int line) {
            for (int place = counts[line] - 1; place >= 0; place--) {
                int spot = line * PLACES + place;
                if (spot < marks.length && (marks[spot] == Chair.SITS || marks[spot] == Chair.PARTED)) {
                    return place;
                }
            }
            return NONE;
        }

        int people(int line) {
            int people = 0;
            int count = countOf(line);
            for (int place = 0; place < count; place++) {
                people += get(line * PLACES + place, SIZE);
            }
            return people;
        }

        int shortest() {
            int line = 0;
            for (int i = 1; i < LINES; i++) {
                if (counts[i] < counts[line]) {
                    line = i;
                }
            }
            return line;
        }

        boolean hasNumber(int number) {
            for (int line = 0; line < LINES; line++) {
                for (int place = 0; place < counts[line]; place++) {
                    if (get(line * PLACES + place, NUMBER) == number) {
                        return true;
                    }
                }
            }
            return false;
        }

        boolean canJoin(int first, int second) {
            return first != second && isPlainAndTrue(first) && isPlainAndTrue(second)
                && get(first, SIZE) + get(second, SIZE) <= MOST_SIZE;
        }

        boolean isPlainAndTrue(int spot) {
            return get(spot, SORT) == PLAIN && get(spot, SAYS) == get(spot, SIZE);
        }

        void join(int first, int second) {
            int both = get(first, SIZE) + get(second, SIZE);
            put(second, SIZE, both);
            put(second, SAYS, both);
            remove(first);
        }

        /** The row of the group at a place of a LINE folded in rows for w; of NONE: how many rows. */
        int rowOf(int line, int w, int wanted) {
            int next = 0;
            int room = 0;
            int count = countOf(line);
            for (int place = 0; place < count; place++) {
                int size = get(line * PLACES + place, SIZE);
                int row = next;
                if (size <= room) {
                    row = next - 1;
                    room -= size;
                } else if (size <= w) {
                    next++;
                    room = w - size;
                } else {
                    next += w > 0 ? (size + w - 1) / w : 0;
                    room = 0;
                }
                if (place == wanted) {
                    return row;
                }
            }
            return next;
        }
    }

    /** All that is and was told, but the TAPE and who is picked. */
    private static final class Hill {
        private final int[] told = {4, 6, 40, 0, 0, 0};
        private final Law[] laws = new Law[RULES + 1];
        private final int[] partings = new int[MOST_SIZE + 1];
        private final int[] comers = new int[COMERS * 4];
        private final int[] heap = new int[MOST_SIZE + 1];
        private final Lines lines = new Lines();
        private int state;
        private int came;
        private final int[] tally = new int[MEAN];
        // Filled as last() numbers it.
        private final int[] latest = new int[30];
        private final int[] past = new int[PAST_CHAIRS * 3];

        // The set of WHICH, that tells in place of THE LINES; NONE but in thought.
        private int sizesSet = NONE;
        private final int[] facts = new int[Law.FACTS];
        private final int[] arrival = new int[WIDTH];

        Hill() {
            for (int i = 0; i < laws.length; i++) {
                laws[i] = new Law();
            }
        }

        void copyFrom(Hill other) {
            for (int i = 0; i < laws.length && i < other.laws.length; i++) {
                laws[i].copyFrom(other.laws[i]);
            }
            lines.copyFrom(other.lines);
            System.arraycopy(other.told, 0, told, 0, told.length);
            System.arraycopy(other.partings, 0, partings, 0, partings.length);
            System.arraycopy(other.comers, 0, comers, 0, comers.length);
            System.arraycopy(other.heap, 0, heap, 0, heap.length);
            System.arraycopy(other.tally, 0, tally, 0, tally.length);
            System.arraycopy(other.latest, 0, latest, 0, latest.length);
            System.arraycopy(other.past, 0, past, 0, past.length);
            state = other.state;
            came = other.came;
            sizesSet = other.sizesSet;
        }

        private int draw(int m) {
            state = state * 1664525 + 1013904223;
            return m > 0 ? (state >>> 8) % m : 0;
        }

        void tellComer(int k, int size, int says, int sort, int chance) {
            if (k >= 0 && k < COMERS) {
                comers[4 * k] = size;
                comers[4 * k + 1] = says;
                comers[4 * k + 2] = sort;
                comers[4 * k + 3] = chance;
            }
        }

        void letComersEnter() {
            for (int i = 0; i + 3 < comers.length; i += 4) {
                int chance = comers[i + 3];
                if (chance > 0 && draw(THOUSAND) < chance) {
                    enter(comers[i], comers[i + 1], comers[i + 2]);
                }
            }
        }

        /** A group comes: its LINE, or NONE if it went away. */
        int enter(int size, int says, int sort) {
            arrival[NUMBER] = came;
            arrival[SIZE] = size;
            arrival[SAYS] = says;
            arrival[SORT] = sort;
            came++;
            int line = lineFor(says, sort);
            if (lines.append(line, arrival, 0)) {
                return line;
            }
            tally[AWAY]++;
            return NONE;
        }

        private int lineFor(int says, int sort) {
            if (sizesSet != NONE) {
                return says <= 4 ? sizesSet >> says - 1 & 1 : 0;
            }
            facts[Law.SIZE] = says;
            facts[Law.SORT] = sort;
            facts[Law.SHORT] = lines.shortest();
            facts[Law.FIRST] = lines.counts[0];
            return laws[THE_LINES].value(facts);
        }

        Law lawInForce() {
            int rule = told[RULE];
            return laws[rule >= 0 && rule < RULES ? rule : 0];
        }

        /** The facts by which a RULE tells the WORTH of a group, with so many seats left and groups taken. */
        void weigh(int spot, int left, int taken) {
            int line = spot / PLACES;
            int place = spot % PLACES;
            facts[Law.SIZE] = lines.get(spot, SAYS);
            facts[Law.LEFT] = left;
            facts[Law.PLACE] = place;
            facts[Law.LINE] = line;
            facts[Law.PASSED] = lines.get(spot, PASSED);
            facts[Law.WAITED] = lines.get(spot, WAITED);
            facts[Law.SORT] = lines.get(spot, SORT);
            facts[Law.TAKEN] = taken;
            facts[Law.BEHIND] = lines.countOf(line) - place - 1;
        }

        /** The i-th group that sits goes with the chair, so many of it. */
        void note(int i, int spot, int size) {
            if (i < 0 || i >= MOST_SEATS || size < 1 || size > MOST_SIZE) {
                return;
            }
            int waited = lines.get(spot, WAITED);
            tally[GONE + size]++;
            tally[WAIT + size] += waited;
            tally[LONGEST + size] = Math.max(tally[LONGEST + size], waited);
            tally[PEOPLE] += size;
            latest[10 + i] = lines.get(spot, NUMBER);
            latest[20 + i] = size;
        }

        void close(int left, int taken) {
            tally[EMPTY] += left;
            tally[TIME] += told[SECONDS];
            if (told[FALLS] > 0 && draw(THOUSAND) < told[FALLS]) {
                tally[TIME] += told[HALT];
                tally[STOPS]++;
            }
            latest[0] = taken;
            latest[1] = left;
            int at = pastAt(tally[CHAIRS]);
            past[at] = left;
            past[at + 1] = taken;
            past[at + 2] = tally[TIME];
            tally[CHAIRS]++;
        }

        private static int pastAt(int chairs) {
            return Math.floorMod(chairs, PAST_CHAIRS) * 3;
        }

        int pastChair(int i, int what) {
            return what >= 0 && what < 3 ? past[pastAt(tally[CHAIRS] - 1 - i) + what] : NONE;
        }

        int meanWait(int size) {
            if (size < 1 || size > MOST_SIZE || tally[GONE + size] <= 0) {
                return NONE;
            }
            return (int) (100L * tally[WAIT + size] / tally[GONE + size]);
        }

        boolean satLast(int number) {
            for (int i = 0; i < latest[0] && i < MOST_SEATS; i++) {
                if (latest[10 + i] == number) {
                    return true;
                }
            }
            return false;
        }
    }

    /** A chair before the gate, filled by the RULE IN FORCE or by hand. */
    private static final class Chair {
        private static final int STANDS = 0;
        private static final int SITS = 1;
        private static final int CAUGHT = 2;
        private static final int PARTED = 3;

        private final int[] marks = new int[SPOTS];
        private final int[] spots = new int[MOST_SEATS];
        private final int[] sizes = new int[MOST_SEATS];
        // The rows of those FOUND OUT, as they will stand behind LINE 0.
        private final int[] caught = new int[IN_SIGHT * WIDTH];
        private final int[] sight = new int[IN_SIGHT];
        private int sighted;
        private final int[] worths = new int[IN_SIGHT];
        private int left;
        private int taken;
        private int liars;
        private boolean dear;
        private boolean company;

        Chair() {
            left = 4;
        }

        void clear(int seats) {
            Arrays.fill(marks, STANDS);
            left = seats;
            taken = 0;
            liars = 0;
            dear = false;
            company = false;
        }

        int turns(Hill hill, int n) {
            int people = 0;
            for (int i = 0; i < n; i++) {
                hill.letComersEnter();
                fill(hill);
                people += leave(hill);
            }
            return people;
        }

        int ride(Hill hill) {
            fill(hill);
            return leave(hill);
        }

        void fill(Hill hill) {
            clear(hill.told[SEATS]);
            sighted = hill.lines.listSeen(sight, NONE);
            boolean weigh = true;
            // Each step marks one more of those that are SEEN.
            for (int step = 0; step <= IN_SIGHT; step++) {
                int spot = mostPassed(hill);
                if (spot == NONE) {
                    spot = worthiest(hill, weigh);
                    weigh = false;
                }
                if (spot == NONE) {
                    break;
                }
                int size = hill.lines.get(spot, SIZE);
                if (size > left) {
                    findOut(hill, spot);
                } else {
                    sit(spot, size, hill.lines.get(spot, SORT), SITS);
                    weigh = true;
                }
            }
            partOne(hill);
        }

        private boolean stands(int spot) {
            return spot >= 0 && spot < SPOTS && marks[spot] == STANDS;
        }

        private boolean fits(Hill hill, int spot) {
            if (!stands(spot) || dear || hill.lines.get(spot, SAYS) > left) {
                return false;
            }
            int sort = hill.lines.get(spot, SORT);
            return (sort != CHILDREN || company) && (sort != DEAR || taken == 0);
        }

        private int mostPassed(Hill hill) {
            int bound = hill.told[BOUND];
            int most = bound - 1;
            int chosen = NONE;
            for (int i = 0; i < sighted && i < IN_SIGHT && bound > 0; i++) {
                int passed = hill.lines.get(sight[i], PASSED);
                if (passed > most && fits(hill, sight[i])) {
                    most = passed;
                    chosen = sight[i];
                }
            }
            return chosen;
        }

        /** To be weighed anew when one more sits, for WORTHS stay as they are till then. */
        private int worthiest(Hill hill, boolean weigh) {
            Law law = hill.lawInForce();
            int most = 0;
            int chosen = NONE;
            for (int i = 0; i < sighted && i < IN_SIGHT; i++) {
                if (fits(hill, sight[i])) {
                    if (weigh) {
                        hill.weigh(sight[i], left, taken);
                        worths[i] = law.value(hill.facts);
                    }
                    if (worths[i] > most) {
                        most = worths[i];
                        chosen = sight[i];
                    }
                }
            }
            return chosen;
        }

        private void findOut(Hill hill, int spot) {
            int at = liars * WIDTH;
            if (spot < 0 || spot >= SPOTS || at < 0 || at > caught.length - WIDTH) {
                return;
            }
            marks[spot] = CAUGHT;
            System.arraycopy(hill.lines.rows, spot * WIDTH, caught, at, WIDTH);
            caught[at + SAYS] = caught[at + SIZE];
            liars++;
            hill.tally[FOUND]++;
        }

        private void sit(int spot, int size, int sort, int mark) {
            if (spot < 0 || spot >= SPOTS || taken < 0 || taken >= MOST_SEATS) {
                return;
            }
            marks[spot] = mark;
            spots[taken] = spot;
            sizes[taken] = size;
            taken++;
            left -= size;
            dear = dear || sort == DEAR;
            company = company || sort != CHILDREN;
        }

        private void partOne(Hill hill) {
            for (int i = 0; i < sighted && i < IN_SIGHT && !dear; i++) {
                int spot = sight[i];
                int part = partThatFits(hill, spot);
                if (part > 0) {
                    hill.weigh(spot, left, taken);
                    if (hill.lawInForce().value(hill.facts) > 0) {
                        int rest = hill.lines.get(spot, SIZE) - part;
                        sit(spot, part, PLAIN, PARTED);
                        hill.lines.put(spot, SIZE, rest);
                        hill.lines.put(spot, SAYS, rest);
                        return;
                    }
                }
            }
        }

        /** The greater part that is not above left, of one that can be parted now; else 0. */
        private int partThatFits(Hill hill, int spot) {
            int size = hill.lines.get(spot, SIZE);
            if (size <= left || !stands(spot) || !hill.lines.isPlainAndTrue(spot)) {
                return 0;
            }
            int part = size >= 0 && size <= MOST_SIZE ? hill.partings[size] : 0;
            if (part == 0) {
                return 0;
            }
            int greater = Math.max(part, size - part);
            return greater <= left ? greater : size - greater <= left ? size - greater : 0;
        }

        /** The chair goes: how many people sit. */
        int leave(Hill hill) {
            int before = hill.tally[PEOPLE];
            for (int i = 0; i < taken && i < MOST_SEATS; i++) {
                hill.note(i, spots[i], sizes[i]);
            }
            hill.lines.depart(marks);
            for (int i = 0; i < liars; i++) {
                if (!hill.lines.append(0, caught, i * WIDTH)) {
                    hill.tally[AWAY]++;
                }
            }
            hill.close(left, taken);
            return hill.tally[PEOPLE] - before;
        }

        /** A group comes to be picked: 0, or why not. */
        int judge(Hill hill, int line, int place) {
            int spot = line * PLACES + place;
            if (!hill.lines.has(line, place) || !stands(spot)) {
                return 1;
            }
            int size = hill.lines.get(spot, SIZE);
            int sort = hill.lines.get(spot, SORT);
            if (!hill.lines.isSeen(line, place)) {
                return 2;
            }
            if (size > left) {
                return 3;
            }
            if (sort == CHILDREN && !company) {
                return 4;
            }
            if (dear || sort == DEAR && taken > 0) {
                return 5;
            }
            sit(spot, size, sort, SITS);
            return 0;
        }
    }

    /** What would come, IN THOUGHT, on a hill of its own. */
    private static final class Mind {
        private static final int SETS = 16;

        private final Hill dream = new Hill();
        private final Chair chair = new Chair();
        private final int[] gains = new int[3];

        /** n TURNS with these told in place. */
        void imagine(Hill now, int rule, int bound, int seats, int n) {
            dream.copyFrom(now);
            dream.told[RULE] = rule;
            dream.told[BOUND] = bound;
            dream.told[SEATS] = seats;
            chair.turns(dream, n);
        }

        /** What came by that, as thought() numbers it. */
        int gained(Hill now, int what) {
            switch (what) {
                case 0:
                    return dream.tally[EMPTY] - now.tally[EMPTY];
                case 1:
                    return dream.tally[PEOPLE] - now.tally[PEOPLE];
                case 2:
                    return allWait(dream) - allWait(now);
                case 3:
                    return dream.tally[AWAY] - now.tally[AWAY];
                case 4:
                    return dream.tally[FOUND] - now.tally[FOUND];
                default:
                    return longest();
            }
        }

        private static int allWait(Hill hill) {
            int all = 0;
            for (int size = 1; size <= MOST_SIZE; size++) {
                all += hill.tally[WAIT + size];
            }
            return all;
        }

        private int longest() {
            int most = 0;
            for (int size = 1; size <= MOST_SIZE; size++) {
                most = Math.max(most, dream.tally[LONGEST + size]);
            }
            return most;
        }

        /** TILL of the group at a spot. */
        int tillSits(Hill now, int spot) {
            dream.copyFrom(now);
            return countTill(now.lines.get(spot, NUMBER));
        }

        int tillJoined(Hill now, int first, int second) {
            dream.copyFrom(now);
            dream.lines.join(first, second);
            return countTill(now.lines.get(second, NUMBER));
        }

        private int countTill(int number) {
            for (int chairs = 1; chairs <= AHEAD; chairs++) {
                chair.fill(dream);
                chair.leave(dream);
                if (!dream.lines.hasNumber(number)) {
                    return dream.satLast(number) ? chairs : NONE;
                }
            }
            return NONE;
        }

        int emptyNeeded(Hill now, int n) {
            dream.copyFrom(now);
            int empty = 0;
            for (int i = 0; i < n; i++) {
                int before = dream.tally[EMPTY];
                if (chair.ride(dream) > 0) {
                    empty += dream.tally[EMPTY] - before;
                }
            }
            return empty;
        }

        /** WHICH, as which() numbers it. */
        int bestSet(Hill now, int n, int what) {
            for (int set = 0; set < SETS; set++) {
                dream.copyFrom(now);
                dream.sizesSet = set;
                chair.turns(dream, n);
                int empty = gained(now, 0);
                int wait = gained(now, 2);
                if (set == 0 || empty < gains[1] || empty == gains[1] && wait < gains[2]) {
                    gains[0] = set;
                    gains[1] = empty;
                    gains[2] = wait;
                }
            }
            return what >= 0 && what < gains.length ? gains[what] : NONE;
        }
    }

    /** BEST filling. */
    private static final class Filling {
        // Who of those chosen is there already.
        private static final int NOBODY = 0;
        private static final int CHILDREN_ALONE = 1;
        private static final int OTHERS = 2;
        private static final int CAPS = MOST_SEATS + 1;

        private final int[] spots = new int[IN_SIGHT];
        private final int[] sizes = new int[IN_SIGHT];
        private final int[] sorts = new int[IN_SIGHT];
        private int groups;
        // For the groups from the i-th on, by who is there and the seats left: the most that they fill, or NONE.
        private final int[] most = new int[(IN_SIGHT + 1) * 3 * CAPS];
        private final int[] chosen = new int[MOST_SEATS];
        private int count;

        /** How many seats are filled, with one more SEEN of a LINE (or NONE). */
        int fillMost(Hill hill, int longer) {
            int seats = Math.min(hill.told[SEATS], MOST_SEATS);
            gather(hill.lines, longer);
            for (int left = 0; left < CAPS; left++) {
                most[at(groups, NOBODY, left)] = 0;
                most[at(groups, CHILDREN_ALONE, left)] = NONE;
                most[at(groups, OTHERS, left)] = 0;
            }
            for (int i = groups - 1; i >= 0; i--) {
                for (int there = NOBODY; there <= OTHERS; there++) {
                    for (int left = 0; left < CAPS; left++) {
                        most[at(i, there, left)] = Math.max(most[at(i + 1, there, left)], mostWith(i, there, left));
                    }
                }
            }
            choose(seats);
            return most[at(0, NOBODY, seats)];
        }

        private void gather(Lines lines, int longer) {
            int seen = lines.listSeen(spots, longer);
            groups = 0;
            for (int i = 0; i < seen && i < IN_SIGHT; i++) {
                int sort = lines.get(spots[i], SORT);
                if (sort != DEAR) {
                    spots[groups] = spots[i];
                    sizes[groups] = lines.get(spots[i], SIZE);
                    sorts[groups] = sort;
                    groups++;
                }
            }
        }

        private static int at(int i, int there, int left) {
            boolean known = i >= 0 && i <= IN_SIGHT && there >= 0 && there < 3 && left >= 0 && left < CAPS;
            return known ? (i * 3 + there) * CAPS + left : 0;
        }

        private int thereWith(int i, int there) {
            return sorts[i] != CHILDREN ? OTHERS : there == NOBODY ? CHILDREN_ALONE : there;
        }

        private int mostWith(int i, int there, int left) {
            if (i < 0 || i >= IN_SIGHT || sizes[i] > left) {
                return NONE;
            }
            int rest = most[at(i + 1, thereWith(i, there), left - sizes[i])];
            return rest == NONE ? NONE : rest + sizes[i];
        }

        private void choose(int seats) {
            count = 0;
            int there = NOBODY;
            int left = seats;
            for (int i = 0; i < groups && i < IN_SIGHT && count < MOST_SEATS; i++) {
                int with = mostWith(i, there, left);
                if (with != NONE && with == most[at(i, there, left)]) {
                    chosen[count] = spots[i];
                    count++;
                    there = thereWith(i, there);
                    left -= sizes[i];
                }
            }
        }

        /** 100 LINE + place of the i-th of them. */
        int chosenAt(int i) {
            if (i < 0 || i >= count || i >= MOST_SEATS) {
                return NONE;
            }
            return 100 * (chosen[i] / PLACES) + chosen[i] % PLACES;
        }
    }

    /** FEWEST: how few chairs a HEAP needs, reckoned for every heap within it. */
    private static final class Packer {
        // All ways to fill eight seats or fewer: 1 + 1 + 2 + 3 + 5 + 7 + 11 + 15 + 22.
        private static final int WAYS = 67;
        private static final int COLUMNS = MOST_SIZE + 1;
        // Of 12 groups, when four SIZES have two of them and four have one: 3 * 3 * 3 * 3 * 2 * 2 * 2 * 2.
        private static final int HEAPS = 1296;

        // Of each way the seats that it fills, then the count of each SIZE; most of the greatest SIZE first.
        private final int[] ways = new int[WAYS * COLUMNS];
        private final int[] greatests = new int[WAYS];
        private int known;
        // Heaps within the one told, and ways, are numbered alike, so that a number less a number is the rest's.
        private final int[] numbers = new int[WAYS];
        private final int[] chairs = new int[HEAPS];
        private final int[] counts = new int[COLUMNS];
        private int first = NONE;

        Packer() {
            addWays(MOST_SIZE, MOST_SEATS, 0);
        }

        private void addWays(int size, int left, int greatest) {
            if (size < 1 || size > MOST_SIZE) {
                keepWay(MOST_SEATS - left, greatest);
                return;
            }
            for (int n = left / size; n >= 0; n--) {
                counts[size] = n;
                addWays(size - 1, left - n * size, greatest == 0 && n > 0 ? size : greatest);
            }
        }

        private void keepWay(int seats, int greatest) {
            if (known >= 0 && known < WAYS) {
                counts[0] = seats;
                System.arraycopy(counts, 0, ways, known * COLUMNS, COLUMNS);
                greatests[known] = greatest;
                known++;
            }
        }

        /** How many chairs the heap needs, or NONE. */
        int pack(int[] heap, int seats) {
            int heaps = numberAll(heap);
            Arrays.fill(counts, 0);
            first = NONE;
            for (int heapNumber = 1; heapNumber < heaps && heapNumber < HEAPS; heapNumber++) {
                goOn(heap);
                first = firstWay(heapNumber, seats);
                if (first == NONE) {
                    return NONE;
                }
                int rest = heapNumber - numbers[first];
                chairs[heapNumber] = rest >= 0 && rest < HEAPS ? 1 + chairs[rest] : NONE;
            }
            return heaps >= 1 && heaps <= HEAPS ? chairs[heaps - 1] : NONE;
        }

        private int numberAll(int[] heap) {
            Arrays.fill(numbers, 0);
            int weight = 1;
            for (int size = 1; size <= MOST_SIZE && size < heap.length; size++) {
                for (int way = 0; way < WAYS; way++) {
                    numbers[way] += weight * ways[way * COLUMNS + size];
                }
                weight *= heap[size] + 1;
            }
            return weight;
        }

        /** The counts of the heap with the next number. */
        private void goOn(int[] heap) {
            for (int size = 1; size <= MOST_SIZE && size < heap.length; size++) {
                if (counts[size] < heap[size]) {
                    counts[size]++;
                    return;
                }
                counts[size] = 0;
            }
        }

        private int firstWay(int heapNumber, int seats) {
            int greatest = MOST_SIZE;
            while (greatest > 0 && counts[greatest] == 0) {
                greatest--;
            }
            int chosen = NONE;
            int least = 0;
            for (int way = 0; way < known && way < WAYS; way++) {
                int rest = heapNumber - numbers[way];
                if (greatests[way] == greatest && canGo(way, seats) && rest >= 0 && rest < HEAPS
                    && (chosen == NONE || chairs[rest] < least)) {
                    least = chairs[rest];
                    chosen = way;
                }
            }
            return chosen;
        }

        private boolean canGo(int way, int seats) {
            if (ways[way * COLUMNS] > seats) {
                return false;
            }
            for (int size = 1; size <= MOST_SIZE; size++) {
                if (ways[way * COLUMNS + size] > counts[size]) {
                    return false;
                }
            }
            return true;
        }

        /** The count of a SIZE in FIRST of the heap packed last. */
        int inFirst(int size) {
            boolean any = first >= 0 && first < WAYS && size >= 1 && size <= MOST_SIZE;
            return any ? ways[first * COLUMNS + size] : 0;
        }
    }
}
