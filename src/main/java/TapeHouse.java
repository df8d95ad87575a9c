import java.util.Arrays;

/**
 * A house of spoken lives: tapes cut to pieces, consents that say who may hear them, what each
 * asker has heard, and the days of what was told.
 */
public final class TapeHouse {
    public static final int NONE = -1;

    private static final int LAST_DAY = 9999;
    private static final int KINDS = 4;
    private static final int USES = 4;

    private static final int MAX_PERSONS = 12;
    private static final int TRAITS = 4;
    private static final int TRAIT_VALUES = 4;
    private static final int MAX_TOPICS = 12;
    private static final int MAX_TAPES = 6;
    private static final int MAX_LENGTH = 999;
    private static final int MAX_PIECES = 30;
    private static final int MAX_ASKERS = 6;
    private static final int MAX_COPIES = 4;
    private static final int MAX_LAG = 400;
    private static final int EVENTS = 10;
    private static final int MAX_TELLINGS = 12;

    private static final int MAX_BYTES = 2000;
    private static final int FED_BYTES = 20;
    private static final int MAX_TOKENS = 400;
    private static final int MAX_RULES = 16;
    private static final int MAX_DEPTH = 6;
    private static final int MAX_LETTERS = 8;
    private static final int MAX_DIGITS = 4;
    // A literal has two tokens at least, and one more parts it from the next one.
    private static final int MAX_LITERALS = MAX_TOKENS / 3;
    // A bracket holds back two operators (of + - and of *) and itself; the outermost level too.
    private static final int STACK = 3 * (MAX_DEPTH + 1);

    private static final int SYNTAX = 1;
    private static final int ROOM = 2;
    private static final int NAME = 4;

    // The words that a text may use; the place of each here is the number of its token.
    private static final String WORDS =
        "let keep mask if or and in kind use age dead piece names own ";
    private static final int LET = 0;
    private static final int KEEP = 1;
    private static final int MASK = 2;
    private static final int IF = 3;
    private static final int OR = 4;
    private static final int AND = 5;
    private static final int IN = 6;
    private static final int KIND = 7;
    private static final int USE = 8;
    private static final int AGE = 9;
    private static final int DEAD = 10;
    private static final int PIECE = 11;
    private static final int NAMES = 12;
    private static final int OWN = 13;
    private static final int OTHER_WORD = 14;
    private static final int INT = 15;
    private static final int SEMICOLON = 16;
    private static final int PLUS = 17;
    private static final int MINUS = 18;
    private static final int TIMES = 19;
    private static final int EQUAL = 20;
    private static final int UNEQUAL = 21;
    private static final int LESS = 22;
    private static final int LESS_OR_EQUAL = 23;
    private static final int OPEN = 24;
    private static final int CLOSE = 25;
    private static final int END = 26;
    private static final int BAD = 27;

    private static final int TAKEN = 0;
    private static final int KEPT = 1;
    private static final int NAMED = 2;
    private static final int MASKED = 3;
    private static final int HIDDEN = 4;

    private static final int KEPT_BY_RULE = -2;
    private static final int NO_RULE = -3;

    private final Text text = new Text();
    private final Parser parser = new Parser();
    private final Question question = new Question();
    private final Town town = new Town();
    private final Topics topics = new Topics();
    private final Shelf shelf = new Shelf();
    private final Askers askers = new Askers();
    private final Tellings tellings = new Tellings();
    private final int[] lags = new int[MAX_COPIES];
    private int copies;
    private int theBound = 2;
    private int faultPlace = NONE;
    // A text is read into this one, so that a fault leaves the person's own as it was.
    private Consent spare = new Consent();

    public TapeHouse() {
    }

    public int feed(int a, int b, int c, int d, int e) {
        return text.addTwenty(a, b, c, d, e);
    }

    public int back(int n) {
        return text.drop(n);
    }

    public int read(int person) {
        if (!town.has(person)) {
            return NONE;
        }
        int fault = parser.parse(text, spare, topics.size);
        faultPlace = parser.faultPlace;
        if (fault == 0) {
            spare = town.exchangeConsent(person, spare);
        }
        text.clear();
        return fault;
    }

    public int place() {
        return faultPlace;
    }

    public int person(int a, int b, int c, int d) {
        boolean traits = isBelow(a, TRAIT_VALUES) && isBelow(b, TRAIT_VALUES)
            && isBelow(c, TRAIT_VALUES) && isBelow(d, TRAIT_VALUES);
        return traits ? town.add(a, b, c, d) : NONE;
    }

    public int topic(int under) {
        return under == NONE || topics.has(under) ? topics.add(under) : NONE;
    }

    public int tape(int speaker, int day, int length) {
        boolean lengthFits = length >= 1 && length <= MAX_LENGTH;
        return town.has(speaker) && isDay(day) && lengthFits
            ? shelf.addTape(speaker, day, length) : NONE;
    }

    public int piece(int tape, int from, int to, int topic, int names, int tells) {
        if (!shelf.isFree(tape, from, to) || !topics.has(topic)) {
            return NONE;
        }
        boolean named = names == NONE ? tells == 0 : town.has(names) && isBelow(tells, 1 << TRAITS);
        return named ? shelf.addPiece(tape, from, to, topic, names, tells) : NONE;
    }

    public int asker(int kind) {
        return isBelow(kind, KINDS) ? askers.add(kind) : NONE;
    }

    public int copy(int lag) {
        if (lag < 0 || lag > MAX_LAG || copies >= MAX_COPIES) {
            return NONE;
        }
        lags[copies] = lag;
        copies++;
        return copies - 1;
    }

    public boolean bound(int k) {
        boolean fits = k >= 1 && k <= MAX_PERSONS;
        if (fits) {
            theBound = k;
        }
        return fits;
    }

    public boolean dies(int person, int day) {
        return isDay(day) && town.setDeath(person, day);
    }

    public boolean takes(int piece, int day) {
        return isDay(day) && shelf.takeBack(piece, day);
    }

    public int let(int piece, int day, int kind, int use) {
        if (!isQuestion(piece, day, kind, use)) {
            return NONE;
        }
        Consent consent = pose(piece, day, kind, use);
        return consent == null ? NO_RULE : consent.letBy(question);
    }

    public int mask(int piece, int day, int kind, int use) {
        if (!isQuestion(piece, day, kind, use) || shelf.names[piece] == NONE) {
            return NONE;
        }
        Consent consent = pose(piece, day, kind, use);
        return consent == null ? NONE : consent.maskedBy(question);
    }

    public int would(int asker, int piece, int copy, int day, int use) {
        return isAsking(asker, piece, copy, day, use)
            ? answerTo(asker, piece, copy, day, use) : NONE;
    }

    public int ask(int asker, int piece, int copy, int day, int use) {
        if (!isAsking(asker, piece, copy, day, use)) {
            return NONE;
        }
        int answer = answerTo(asker, piece, copy, day, use);
        if (answer == NAMED || answer == MASKED) {
            askers.hear(asker, piece, answer);
        }
        return answer;
    }

    public int heard(int asker, int piece) {
        return askers.has(asker) && shelf.has(piece) ? askers.wayOf(asker, piece) : NONE;
    }

    public int could(int asker, int person) {
        if (!askers.has(asker) || !town.has(person)) {
            return NONE;
        }
        if (knowsByName(asker, person)) {
            return 1;
        }
        return town.alikeTo(person, knownTraits(asker, person));
    }

    public int seconds(int topic, int asker) {
        if (!topics.has(topic) || (asker != NONE && !askers.has(asker))) {
            return NONE;
        }
        int sum = 0;
        for (int piece = 0; piece < shelf.pieces; piece++) {
            boolean counts = asker == NONE || askers.wayOf(asker, piece) != 0;
            if (counts && (topics.lineOf(shelf.topics[piece]) >> topic & 1) == 1) {
                sum += shelf.ends[piece] - shelf.starts[piece];
            }
        }
        return sum;
    }

    public int opens(int piece, int day, int kind, int use) {
        if (!isQuestion(piece, day, kind, use)) {
            return NONE;
        }
        Consent consent = pose(piece, day, kind, use);
        if (consent == null) {
            return NONE;
        }
        int last = consent.moving ? LAST_DAY : day;
        for (int today = day; today <= last; today++) {
            question.turnTo(today);
            if (consent.letBy(question) >= 0) {
                return today;
            }
        }
        return NONE;
    }

    public int at(int tape, int second) {
        return shelf.pieceAt(tape, second);
    }

    public int span(int event, int a, int b) {
        return isEvent(event) && isDay(a) && isDay(b) && a <= b
            ? tellings.add(Tellings.SPAN, event, event, a, b) : NONE;
    }

    public int behind(int event, int other, int d) {
        boolean distance = d >= -LAST_DAY && d <= LAST_DAY;
        return areTwoEvents(event, other) && distance
            ? tellings.add(Tellings.BEHIND, event, other, d, 0) : NONE;
    }

    public int same(int event, int other) {
        return areTwoEvents(event, other)
            ? tellings.add(Tellings.SAME, event, other, 0, 0) : NONE;
    }

    public int left(int n) {
        return tellings.leftOut(n);
    }

    public int when(int event, int n, int what) {
        if (!isEvent(event) || what < 0 || what > 1) {
            return NONE;
        }
        return tellings.dayOf(event, n, what == 1);
    }

    public int count(int what) {
        switch (what) {
            case 0:
                return town.size;
            case 1:
                return topics.size;
            case 2:
                return shelf.tapes;
            case 3:
                return shelf.pieces;
            case 4:
                return askers.size;
            case 5:
                return copies;
            case 6:
                return tellings.size;
            case 7:
                return text.size;
            case 8:
                return theBound;
            default:
                return NONE;
        }
    }

    private static boolean isBelow(int number, int limit) {
        return number >= 0 && number < limit;
    }

    private static boolean isDay(int day) {
        return day >= 0 && day <= LAST_DAY;
    }

    private static boolean isEvent(int event) {
        return event >= 0 && event < EVENTS;
    }

    private static boolean isVar(int token) {
        return token >= KIND && token <= OWN;
    }

    private static boolean isOperator(int token) {
        return token == PLUS || token == MINUS || token == TIMES;
    }

    private static boolean areTwoEvents(int event, int other) {
        return isEvent(event) && isEvent(other) && event != other;
    }

    private boolean isQuestion(int piece, int day, int kind, int use) {
        return shelf.has(piece) && isDay(day) && isBelow(kind, KINDS) && isBelow(use, USES);
    }

    private boolean isAsking(int asker, int piece, int copy, int day, int use) {
        boolean place = copy == NONE || isBelow(copy, copies);
        return askers.has(asker) && shelf.has(piece) && place && isDay(day) && isBelow(use, USES);
    }

    /** Makes the question ready and answers the consent of the piece's speaker. */
    private Consent pose(int piece, int day, int kind, int use) {
        int speaker = shelf.speakerOf(piece);
        int names = shelf.names[piece];
        question.begin(shelf.madeOn(piece), town.deathOf(speaker),
            topics.lineOf(shelf.topics[piece]));
        question.give(KIND, kind);
        question.give(USE, use);
        question.give(PIECE, piece);
        question.give(NAMES, names);
        question.give(OWN, names == speaker ? 1 : 0);
        question.turnTo(day);
        return town.consentOf(speaker);
    }

    private int answerTo(int asker, int piece, int copy, int day, int use) {
        int lag = isBelow(copy, copies) ? lags[copy] : 0;
        int takenOn = shelf.takenOn[piece];
        if (takenOn != NONE && takenOn + lag <= day) {
            return TAKEN;
        }
        Consent consent = pose(piece, day, askers.kindOf(asker), use);
        if (consent == null || consent.letBy(question) < 0) {
            return KEPT;
        }
        if (shelf.names[piece] == NONE || consent.maskedBy(question) == NONE) {
            return NAMED;
        }
        return wouldUnmask(asker, piece) ? HIDDEN : MASKED;
    }

    private boolean wouldUnmask(int asker, int piece) {
        int person = shelf.names[piece];
        int traits = knownTraits(asker, person) | shelf.tells[piece];
        return town.alikeTo(person, traits) < theBound && !knowsByName(asker, person);
    }

    /** The traits (bits) that the pieces which the asker has heard masked tell of the person. */
    private int knownTraits(int asker, int person) {
        int traits = 0;
        for (int piece = 0; piece < shelf.pieces; piece++) {
            if (shelf.names[piece] == person && askers.wayOf(asker, piece) == MASKED) {
                traits |= shelf.tells[piece];
            }
        }
        return traits;
    }

    private boolean knowsByName(int asker, int person) {
        for (int piece = 0; piece < shelf.pieces; piece++) {
            if (shelf.names[piece] == person && askers.wayOf(asker, piece) == NAMED) {
                return true;
            }
        }
        return false;
    }

    /** The tape of bytes, and its tokens one after another. */
    private static final class Text {
        private final byte[] bytes = new byte[MAX_BYTES];
        private int size;
        private int next;
        private int token;
        private int tokenPlace;
        private int value;

        int addTwenty(int a, int b, int c, int d, int e) {
            if (size + FED_BYTES > MAX_BYTES) {
                return NONE;
            }
            addFour(a);
            addFour(b);
            addFour(c);
            addFour(d);
            addFour(e);
            return size;
        }

        private void addFour(int four) {
            for (int shift = 24; shift >= 0 && size < bytes.length; shift -= 8) {
                bytes[size] = (byte) (four >> shift);
                size++;
            }
        }

        int drop(int n) {
            if (n < 0 || n > size) {
                return NONE;
            }
            size -= n;
            return size;
        }

        void clear() {
            size = 0;
        }

        void rewind() {
            next = 0;
        }

        void advance() {
            while (next < size && isBlank(bytes[next])) {
                next++;
            }
            tokenPlace = next;
            value = 0;
            if (next >= size) {
                token = END;
            } else if (isLetter(bytes[next])) {
                takeWord();
            } else if (isDigit(bytes[next])) {
                takeInt();
            } else {
                takeSign(bytes[next]);
            }
        }

        private static boolean isBlank(int c) {
            return c == 9 || c == 10 || c == 13 || c == 32;
        }

        private static boolean isLetter(int c) {
            return c >= 'a' && c <= 'z';
        }

        private static boolean isDigit(int c) {
            return c >= '0' && c <= '9';
        }

        private void takeWord() {
            while (next < size && isLetter(bytes[next])) {
                next++;
            }
            token = next - tokenPlace > MAX_LETTERS ? BAD : wordOf(tokenPlace, next);
        }

        private int wordOf(int from, int to) {
            int word = 0;
            int at = from;
            boolean alike = true;
            for (int i = 0; i < WORDS.length(); i++) {
                char c = WORDS.charAt(i);
                if (c != ' ') {
                    alike = alike && at < to && bytes[at] == c;
                    at++;
                } else if (alike && at == to) {
                    return word;
                } else {
                    word++;
                    at = from;
                    alike = true;
                }
            }
            return OTHER_WORD;
        }

        private void takeInt() {
            while (next < size && isDigit(bytes[next])) {
                value = value * 10 + (bytes[next] - '0');
                next++;
            }
            token = next - tokenPlace > MAX_DIGITS ? BAD : INT;
        }

        private void takeSign(int c) {
            next++;
            token = signOf(c, next < size && bytes[next] == '=');
            if (token == EQUAL || token == UNEQUAL || token == LESS_OR_EQUAL) {
                next++;
            }
        }

        private static int signOf(int c, boolean equalsBehind) {
            switch (c) {
                case ';':
                    return SEMICOLON;
                case '+':
                    return PLUS;
                case '-':
                    return MINUS;
                case '*':
                    return TIMES;
                case '(':
                    return OPEN;
                case ')':
                    return CLOSE;
                case '=':
                    return equalsBehind ? EQUAL : BAD;
                case '!':
                    return equalsBehind ? UNEQUAL : BAD;
                case '<':
                    return equalsBehind ? LESS_OR_EQUAL : LESS;
                default:
                    return BAD;
            }
        }
    }

    /** Reads a text into a consent, token by token, up to its first fault. */
    private static final class Parser {
        // What comes next: a state each.
        private static final int RULE = 0;
        private static final int BEHIND_HEAD = 1;
        private static final int LITERAL = 2;
        private static final int TOPIC = 3;
        private static final int BEHIND_TOPIC = 4;
        private static final int UNIT = 5;
        private static final int BEHIND_UNIT = 6;

        private final int[] waiting = new int[STACK];
        private int waits;
        private int depth;
        private int state;
        private int comparison;
        private boolean startsAll;
        private int firstBadName;
        private int faultPlace;

        /** The number of the first fault, 0 if there is none. */
        int parse(Text text, Consent consent, int topics) {
            begin();
            text.rewind();
            consent.clear();
            int fault = 0;
            boolean going = true;
            for (int taken = 0; going && taken <= MAX_TOKENS; taken++) {
                text.advance();
                fault = faultOf(text.token, taken, consent.rules);
                going = fault == 0 && text.token != END;
                if (going) {
                    take(text, consent, topics);
                }
            }
            if (fault != 0) {
                faultPlace = text.tokenPlace;
            } else if (firstBadName != NONE) {
                fault = NAME;
                faultPlace = firstBadName;
            }
            return fault;
        }

        private void begin() {
            waits = 0;
            depth = 0;
            state = RULE;
            comparison = NONE;
            startsAll = true;
            firstBadName = NONE;
            faultPlace = NONE;
        }

        private int faultOf(int token, int taken, int rules) {
            if (!goesOn(token)) {
                return SYNTAX;
            }
            boolean tooMany = token != END && taken >= MAX_TOKENS;
            boolean ruleTooMany = isHead(token) && rules >= MAX_RULES;
            boolean tooDeep = token == OPEN && depth >= MAX_DEPTH;
            return tooMany || ruleTooMany || tooDeep ? ROOM : 0;
        }

        private boolean goesOn(int token) {
            switch (state) {
                case RULE:
                    return isHead(token) || token == END;
                case BEHIND_HEAD:
                    return token == IF || token == SEMICOLON;
                case LITERAL:
                    return token == IN || startsUnit(token);
                case TOPIC:
                    return token == INT;
                case BEHIND_TOPIC:
                    return endsLiteral(token);
                case UNIT:
                    return startsUnit(token);
                default:
                    return isOperator(token) || endsSide(token);
            }
        }

        private boolean endsSide(int token) {
            if (depth > 0) {
                return token == CLOSE;
            }
            return comparison == NONE ? isComparison(token) : endsLiteral(token);
        }

        private static boolean isHead(int token) {
            return token == LET || token == KEEP || token == MASK;
        }

        private static boolean startsUnit(int token) {
            return token == INT || token == OPEN || isVar(token);
        }

        private static boolean isComparison(int token) {
            return token >= EQUAL && token <= LESS_OR_EQUAL;
        }

        private static boolean endsLiteral(int token) {
            return token == AND || token == OR || token == SEMICOLON;
        }

        /** Takes a token with which the text goes on. */
        private void take(Text text, Consent consent, int topics) {
            int token = text.token;
            if (isHead(token)) {
                consent.addRule(token);
                state = BEHIND_HEAD;
            } else if (token == IF) {
                startsAll = true;
                state = LITERAL;
            } else if (token == IN) {
                state = TOPIC;
            } else if (state == TOPIC) {
                takeTopic(text, consent, topics);
            } else if (token == INT || isVar(token)) {
                consent.addCell(token == INT ? text.value : Consent.codeOf(token));
                state = BEHIND_UNIT;
            } else if (token == OPEN || token == CLOSE) {
                takeBracket(token, consent);
            } else if (isOperator(token)) {
                unload(consent, token == TIMES ? TIMES : PLUS);
                hold(token);
                state = UNIT;
            } else if (isComparison(token)) {
                unload(consent, PLUS);
                comparison = token;
                state = UNIT;
            } else {
                takeLiteralEnd(token, consent);
            }
        }

        private void takeTopic(Text text, Consent consent, int topics) {
            if (text.value >= topics && firstBadName == NONE) {
                firstBadName = text.tokenPlace;
            }
            consent.addCell(text.value);
            consent.addLiteral(IN, startsAll);
            state = BEHIND_TOPIC;
        }

        private void takeBracket(int token, Consent consent) {
            if (token == OPEN) {
                hold(OPEN);
                depth++;
                state = UNIT;
                return;
            }
            unload(consent, PLUS);
            if (waits > 0) {
                waits--;
            }
            depth--;
            state = BEHIND_UNIT;
        }

        private void takeLiteralEnd(int token, Consent consent) {
            if (comparison != NONE) {
                unload(consent, PLUS);
                consent.addLiteral(comparison, startsAll);
                comparison = NONE;
            }
            startsAll = token == OR;
            state = token == SEMICOLON ? RULE : LITERAL;
        }

        private void hold(int token) {
            if (waits < waiting.length) {
                waiting[waits] = token;
                waits++;
            }
        }

        /** Writes the operators that wait within this bracket: all for PLUS, only * for TIMES. */
        private void unload(Consent consent, int weakest) {
            while (waits > 0 && isOperator(waiting[waits - 1])
                    && (weakest == PLUS || waiting[waits - 1] == TIMES)) {
                waits--;
                consent.addCell(Consent.codeOf(waiting[waits]));
            }
        }
    }

    /** A consent's rules; each has literals, and each literal cells, with operators behind. */
    private static final class Consent {
        // A cell below this is an int of the text; others are tokens.
        private static final int FIRST_CODE = 10000;

        private final byte[] heads = new byte[MAX_RULES];
        private final short[] ruleEnds = new short[MAX_RULES];
        private final byte[] tests = new byte[MAX_LITERALS];
        private final short[] literalEnds = new short[MAX_LITERALS];
        private final boolean[] startsAll = new boolean[MAX_LITERALS];
        private final boolean[] moves = new boolean[MAX_LITERALS];
        private final short[] cells = new short[MAX_TOKENS];
        private int rules;
        private int literals;
        private int size;
        // Whether the day may count in a let or keep rule.
        private boolean moving;

        static int codeOf(int token) {
            return FIRST_CODE + token;
        }

        void clear() {
            rules = 0;
            literals = 0;
            size = 0;
            moving = false;
        }

        void addRule(int head) {
            if (rules < MAX_RULES) {
                heads[rules] = (byte) head;
                ruleEnds[rules] = (short) literals;
                rules++;
            }
        }

        void addCell(int cell) {
            if (size < MAX_TOKENS) {
                cells[size] = (short) cell;
                size++;
            }
        }

        /** The cells since the last literal, and a test of them, are one more literal. */
        void addLiteral(int test, boolean startsNewAll) {
            if (rules < 1 || rules > MAX_RULES || literals >= MAX_LITERALS) {
                return;
            }
            tests[literals] = (byte) test;
            startsAll[literals] = startsNewAll;
            literalEnds[literals] = (short) size;
            moves[literals] = hasDay(firstCell(literals), size);
            moving = moving || (moves[literals] && heads[rules - 1] != MASK);
            literals++;
            ruleEnds[rules - 1] = (short) literals;
        }

        private int firstCell(int literal) {
            return literal > 0 && literal <= MAX_LITERALS ? literalEnds[literal - 1] : 0;
        }

        private boolean hasDay(int from, int to) {
            for (int i = from; i < to; i++) {
                if (cells[i] == codeOf(AGE) || cells[i] == codeOf(DEAD)) {
                    return true;
                }
            }
            return false;
        }

        /** The let rule that holds first of the let and keep ones, or why there is none. */
        int letBy(Question question) {
            for (int rule = 0; rule < rules; rule++) {
                if (heads[rule] != MASK && holds(rule, question)) {
                    return heads[rule] == LET ? rule : KEPT_BY_RULE;
                }
            }
            return NO_RULE;
        }

        int maskedBy(Question question) {
            for (int rule = 0; rule < rules; rule++) {
                if (heads[rule] == MASK && holds(rule, question)) {
                    return rule;
                }
            }
            return NONE;
        }

        private boolean holds(int rule, Question question) {
            int first = rule > 0 ? ruleEnds[rule - 1] : 0;
            boolean all = true;
            for (int literal = first; literal < ruleEnds[rule]; literal++) {
                if (startsAll[literal] && literal > first) {
                    if (all) {
                        return true;
                    }
                    all = true;
                }
                all = all && literalHolds(literal, question);
            }
            return all;
        }

        /** Keeps what does not hang on the day, as opens() asks for many days. */
        private boolean literalHolds(int literal, Question question) {
            if (moves[literal]) {
                return testHolds(literal, question);
            }
            if (question.known[literal] == Question.UNKNOWN) {
                int truth = testHolds(literal, question) ? Question.TRUE : Question.FALSE;
                question.known[literal] = (byte) truth;
            }
            return question.known[literal] == Question.TRUE;
        }

        private boolean testHolds(int literal, Question question) {
            question.top = 0;
            for (int i = firstCell(literal); i < literalEnds[literal]; i++) {
                question.takeCell(cells[i]);
            }
            int second = question.pop();
            if (tests[literal] == IN) {
                return question.isInTopic(second);
            }
            int first = question.pop();
            switch (tests[literal]) {
                case EQUAL:
                    return first == second;
                case UNEQUAL:
                    return first != second;
                case LESS:
                    return first < second;
                default:
                    return first <= second;
            }
        }
    }

    /** What a consent's rules look at: a piece, a day, a kind and a use. */
    private static final class Question {
        private static final int UNKNOWN = 0;
        private static final int FALSE = 1;
        private static final int TRUE = 2;

        private final int[] vars = new int[OWN - KIND + 1];
        private final int[] stack = new int[STACK];
        private final byte[] known = new byte[MAX_LITERALS];
        private int top;
        private int topicLine;
        private int madeOn;
        private int diedOn;

        void begin(int dayMade, int dayOfDeath, int line) {
            Arrays.fill(known, (byte) UNKNOWN);
            madeOn = dayMade;
            diedOn = dayOfDeath;
            topicLine = line;
        }

        void give(int variable, int value) {
            if (isVar(variable)) {
                vars[variable - KIND] = value;
            }
        }

        void turnTo(int day) {
            give(AGE, day - madeOn);
            give(DEAD, diedOn != NONE && diedOn <= day ? day - diedOn : -1);
        }

        boolean isInTopic(int topic) {
            return isBelow(topic, MAX_TOPICS) && (topicLine >> topic & 1) == 1;
        }

        void takeCell(int cell) {
            int token = cell - Consent.FIRST_CODE;
            if (isOperator(token)) {
                int second = pop();
                int first = pop();
                push(token == PLUS ? first + second
                    : token == MINUS ? first - second : first * second);
            } else {
                push(isVar(token) ? vars[token - KIND] : cell);
            }
        }

        private void push(int value) {
            if (top < stack.length) {
                stack[top] = value;
                top++;
            }
        }

        int pop() {
            if (top <= 0) {
                return 0;
            }
            top--;
            return stack[top];
        }
    }

    /** The persons: their traits, deaths and consents. */
    private static final class Town {
        private final int[] traits = new int[MAX_PERSONS * TRAITS];
        private final int[] deaths = new int[MAX_PERSONS];
        private final Consent[] consents = new Consent[MAX_PERSONS];
        private int size;

        boolean has(int person) {
            return isBelow(person, size);
        }

        int add(int a, int b, int c, int d) {
            if (size >= MAX_PERSONS) {
                return NONE;
            }
            int first = size * TRAITS;
            traits[first] = a;
            traits[first + 1] = b;
            traits[first + 2] = c;
            traits[first + 3] = d;
            deaths[size] = NONE;
            consents[size] = new Consent();
            size++;
            return size - 1;
        }

        boolean setDeath(int person, int day) {
            if (!has(person) || deaths[person] != NONE) {
                return false;
            }
            deaths[person] = day;
            return true;
        }

        int deathOf(int person) {
            return has(person) ? deaths[person] : NONE;
        }

        Consent consentOf(int person) {
            return has(person) ? consents[person] : null;
        }

        /** Gives the person another consent, and answers the one that it had. */
        Consent exchangeConsent(int person, Consent newer) {
            if (!has(person) || consents[person] == null) {
                return newer;
            }
            Consent older = consents[person];
            consents[person] = newer;
            return older;
        }

        /** How many persons, this one too, have these traits (bits) as it has them. */
        int alikeTo(int person, int traitBits) {
            int alike = 0;
            for (int other = 0; other < size; other++) {
                if (areAlike(person, other, traitBits)) {
                    alike++;
                }
            }
            return alike;
        }

        private boolean areAlike(int person, int other, int traitBits) {
            if (!has(person) || !has(other)) {
                return false;
            }
            for (int i = 0; i < TRAITS; i++) {
                boolean told = (traitBits >> i & 1) == 1;
                if (told && traits[person * TRAITS + i] != traits[other * TRAITS + i]) {
                    return false;
                }
            }
            return true;
        }
    }

    /** The topics, each with its line: itself and all that it is under, as bits. */
    private static final class Topics {
        private final int[] lines = new int[MAX_TOPICS];
        private int size;

        boolean has(int topic) {
            return isBelow(topic, size);
        }

        int add(int under) {
            if (size >= MAX_TOPICS) {
                return NONE;
            }
            lines[size] = lineOf(under) | 1 << size;
            size++;
            return size - 1;
        }

        int lineOf(int topic) {
            return has(topic) ? lines[topic] : 0;
        }
    }

    /** The tapes and their pieces. */
    private static final class Shelf {
        private final int[] speakers = new int[MAX_TAPES];
        private final int[] days = new int[MAX_TAPES];
        private final int[] lengths = new int[MAX_TAPES];
        private int tapes;
        private final int[] tapeOf = new int[MAX_PIECES];
        private final int[] starts = new int[MAX_PIECES];
        private final int[] ends = new int[MAX_PIECES];
        private final int[] topics = new int[MAX_PIECES];
        private final int[] names = new int[MAX_PIECES];
        private final int[] tells = new int[MAX_PIECES];
        private final int[] takenOn = new int[MAX_PIECES];
        private int pieces;

        boolean has(int piece) {
            return isBelow(piece, pieces);
        }

        int addTape(int speaker, int day, int length) {
            if (tapes >= MAX_TAPES) {
                return NONE;
            }
            speakers[tapes] = speaker;
            days[tapes] = day;
            lengths[tapes] = length;
            tapes++;
            return tapes - 1;
        }

        /** Whether these are seconds of the tape of which no piece has any. */
        boolean isFree(int tape, int from, int to) {
            if (!isBelow(tape, tapes) || from < 0 || from >= to || to > lengths[tape]) {
                return false;
            }
            for (int piece = 0; piece < pieces; piece++) {
                if (tapeOf[piece] == tape && from < ends[piece] && starts[piece] < to) {
                    return false;
                }
            }
            return true;
        }

        int addPiece(int tape, int from, int to, int topic, int named, int told) {
            if (pieces >= MAX_PIECES) {
                return NONE;
            }
            tapeOf[pieces] = tape;
            starts[pieces] = from;
            ends[pieces] = to;
            topics[pieces] = topic;
            names[pieces] = named;
            tells[pieces] = told;
            takenOn[pieces] = NONE;
            pieces++;
            return pieces - 1;
        }

        boolean takeBack(int piece, int day) {
            if (!has(piece) || takenOn[piece] != NONE) {
                return false;
            }
            takenOn[piece] = day;
            return true;
        }

        int speakerOf(int piece) {
            return has(piece) && isBelow(tapeOf[piece], tapes) ? speakers[tapeOf[piece]] : NONE;
        }

        int madeOn(int piece) {
            return has(piece) && isBelow(tapeOf[piece], tapes) ? days[tapeOf[piece]] : 0;
        }

        int pieceAt(int tape, int second) {
            for (int piece = 0; piece < pieces; piece++) {
                if (tapeOf[piece] == tape && second >= starts[piece] && second < ends[piece]) {
                    return piece;
                }
            }
            return NONE;
        }
    }

    /** The askers, and the way in which each has heard each piece (0: not). */
    private static final class Askers {
        private final int[] kinds = new int[MAX_ASKERS];
        private final byte[] ways = new byte[MAX_ASKERS * MAX_PIECES];
        private int size;

        boolean has(int asker) {
            return isBelow(asker, size);
        }

        int add(int kind) {
            if (size >= MAX_ASKERS) {
                return NONE;
            }
            kinds[size] = kind;
            size++;
            return size - 1;
        }

        int kindOf(int asker) {
            return has(asker) ? kinds[asker] : NONE;
        }

        int wayOf(int asker, int piece) {
            return has(asker) && isBelow(piece, MAX_PIECES) ? ways[asker * MAX_PIECES + piece] : 0;
        }

        void hear(int asker, int piece, int way) {
            boolean there = has(asker) && isBelow(piece, MAX_PIECES);
            if (there && wayOf(asker, piece) != NAMED) {
                ways[asker * MAX_PIECES + piece] = (byte) way;
            }
        }
    }

    /** The tellings of the days of events, and which of them are left out. */
    private static final class Tellings {
        private static final int SPAN = 0;
        private static final int BEHIND = 1;
        private static final int SAME = 2;

        private final int[] forms = new int[MAX_TELLINGS];
        private final int[] events = new int[MAX_TELLINGS];
        private final int[] others = new int[MAX_TELLINGS];
        private final int[] lows = new int[MAX_TELLINGS];
        private final int[] highs = new int[MAX_TELLINGS];
        // By n: what is left out of the first n, which never changes once they are told.
        private final int[] leftOuts = new int[MAX_TELLINGS + 1];
        private final int[] days = new int[EVENTS];
        private int size;

        /** For BEHIND low is the distance; high counts for SPAN alone. */
        int add(int form, int event, int other, int low, int high) {
            if (size >= MAX_TELLINGS) {
                return NONE;
            }
            forms[size] = form;
            events[size] = event;
            others[size] = other;
            lows[size] = low;
            highs[size] = high;
            size++;
            leftOuts[size] = findLeftOut();
            return size - 1;
        }

        int leftOut(int n) {
            return n >= 0 && n <= size ? leftOuts[n] : NONE;
        }

        int dayOf(int event, int n, boolean latest) {
            if (n < 0 || n > size || !isEvent(event)) {
                return NONE;
            }
            settle(n, leftOuts[n], latest);
            return latest ? LAST_DAY - days[event] : days[event];
        }

        /**
         * Leaving out the newest one as well as those before is always enough. What is as few as
         * before does without the newest one, and is enough for the earlier ones too, of which
         * those before were the first, that is the greatest as bits: so none greater is tried.
         */
        private int findLeftOut() {
            int before = leftOuts[size - 1];
            int fewest = Integer.bitCount(before);
            for (int out = before; out >= 0; out--) {
                if (Integer.bitCount(out) == fewest && settle(size, out, false)) {
                    return out;
                }
            }
            return before | 1 << (size - 1);
        }

        /**
         * Finds the earliest days by which the first n but those left out hold; false if there
         * are none. Mirrored: days are counted back from the last one, so that the earliest are
         * the latest.
         */
        private boolean settle(int n, int out, boolean mirrored) {
            Arrays.fill(days, 0);
            // A day is pushed along each event once at most, unless the tellings run in a ring.
            for (int round = 0; round <= EVENTS; round++) {
                boolean pushed = false;
                for (int i = 0; i < n; i++) {
                    if ((out >> i & 1) == 0 && pushDays(i, mirrored)) {
                        pushed = true;
                    }
                }
                if (!pushed) {
                    return areWithin(n, out, mirrored);
                }
            }
            return false;
        }

        private boolean pushDays(int i, boolean mirrored) {
            int event = events[i];
            int other = others[i];
            switch (forms[i]) {
                case SPAN:
                    return pushTo(event, mirrored ? LAST_DAY - highs[i] : lows[i]);
                case BEHIND:
                    return mirrored ? pushTo(other, days[event] + lows[i])
                        : pushTo(event, days[other] + lows[i]);
                default:
                    boolean first = pushTo(event, days[other]);
                    boolean second = pushTo(other, days[event]);
                    return first || second;
            }
        }

        private boolean pushTo(int event, int day) {
            if (!isEvent(event) || days[event] >= day) {
                return false;
            }
            days[event] = day;
            return true;
        }

        private boolean areWithin(int n, int out, boolean mirrored) {
            for (int event = 0; event < EVENTS; event++) {
                if (days[event] > LAST_DAY) {
                    return false;
                }
            }
            for (int i = 0; i < n; i++) {
                int latest = mirrored ? LAST_DAY - lows[i] : highs[i];
                if (forms[i] == SPAN && (out >> i & 1) == 0 && days[events[i]] > latest) {
                    return false;
                }
            }
            return true;
        }
    }
}
