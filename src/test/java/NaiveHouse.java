import java.util.ArrayList;
import java.util.List;

/** A second writing of the document, as plain as can be, against which TapeHouse is checked. */
final class NaiveHouse {
    private static final int NONE = -1;

    private record Person(int[] traits) { }

    private record Tape(int speaker, int day, int length) { }

    private record Piece(int tape, int from, int to, int topic, int names, int tells) { }

    /** x[to] - x[from] <= most, of days x. */
    private record Limit(int from, int to, int most) { }

    private final List<Integer> bytes = new ArrayList<>();
    private final List<Person> persons = new ArrayList<>();
    private final List<Integer> topics = new ArrayList<>();
    private final List<Tape> tapes = new ArrayList<>();
    private final List<Piece> pieces = new ArrayList<>();
    private final List<Integer> askers = new ArrayList<>();
    private final List<Integer> copies = new ArrayList<>();
    private final List<List<Limit>> tellings = new ArrayList<>();
    private final Integer[] deaths = new Integer[12];
    private final Integer[] taken = new Integer[30];
    private final NaiveConsent[] consents = new NaiveConsent[12];
    private final int[][] heard = new int[6][30];
    private int bound = 2;
    private int place = NONE;

    private static boolean isIn(int n, List<?> list) {
        return n >= 0 && n < list.size();
    }

    private static boolean isDay(int day) {
        return 0 <= day && day <= 9999;
    }

    private static <T> int added(List<T> list, T one, int most) {
        if (list.size() == most) {
            return NONE;
        }
        list.add(one);
        return list.size() - 1;
    }

    int feed(int a, int b, int c, int d, int e) {
        if (bytes.size() + 20 > 2000) {
            return NONE;
        }
        for (int word : new int[] {a, b, c, d, e}) {
            bytes.add(word >>> 24);
            bytes.add(word >>> 16 & 255);
            bytes.add(word >>> 8 & 255);
            bytes.add(word & 255);
        }
        return bytes.size();
    }

    int back(int n) {
        if (n < 0 || n > bytes.size()) {
            return NONE;
        }
        bytes.subList(bytes.size() - n, bytes.size()).clear();
        return bytes.size();
    }

    int read(int person) {
        if (!isIn(person, persons)) {
            return NONE;
        }
        StringBuilder text = new StringBuilder();
        for (int c : bytes) {
            text.append((char) c);
        }
        bytes.clear();
        try {
            consents[person] = NaiveConsent.of(text.toString(), topics.size());
            place = NONE;
            return 0;
        } catch (NaiveConsent.Fault fault) {
            place = fault.place;
            return fault.number;
        }
    }

    int place() {
        return place;
    }

    int person(int a, int b, int c, int d) {
        for (int trait : new int[] {a, b, c, d}) {
            if (trait < 0 || trait > 3) {
                return NONE;
            }
        }
        return added(persons, new Person(new int[] {a, b, c, d}), 12);
    }

    int topic(int under) {
        return under == NONE || isIn(under, topics) ? added(topics, under, 12) : NONE;
    }

    int tape(int speaker, int day, int length) {
        if (!isIn(speaker, persons) || !isDay(day) || length < 1 || length > 999) {
            return NONE;
        }
        return added(tapes, new Tape(speaker, day, length), 6);
    }

    int piece(int tape, int from, int to, int topic, int names, int tells) {
        if (!isIn(tape, tapes) || !isIn(topic, topics) || tells < 0 || tells > 15) {
            return NONE;
        }
        if (names == NONE ? tells != 0 : !isIn(names, persons)) {
            return NONE;
        }
        if (from < 0 || to > tapes.get(tape).length || from >= to) {
            return NONE;
        }
        for (int second = from; second < to; second++) {
            if (at(tape, second) != NONE) {
                return NONE;
            }
        }
        return added(pieces, new Piece(tape, from, to, topic, names, tells), 30);
    }

    int asker(int kind) {
        return kind >= 0 && kind <= 3 ? added(askers, kind, 6) : NONE;
    }

    int copy(int lag) {
        return lag >= 0 && lag <= 400 ? added(copies, lag, 4) : NONE;
    }

    boolean bound(int k) {
        if (k < 1 || k > 12) {
            return false;
        }
        bound = k;
        return true;
    }

    boolean dies(int person, int day) {
        if (!isIn(person, persons) || !isDay(day) || deaths[person] != null) {
            return false;
        }
        deaths[person] = day;
        return true;
    }

    boolean takes(int piece, int day) {
        if (!isIn(piece, pieces) || !isDay(day) || taken[piece] != null) {
            return false;
        }
        taken[piece] = day;
        return true;
    }

    private boolean topicIsIn(int topic, int other) {
        return topic == other || (topics.get(topic) != NONE && topicIsIn(topics.get(topic), other));
    }

    private NaiveConsent.Case caseOf(int piece, int day, int kind, int use) {
        Piece p = pieces.get(piece);
        Tape tape = tapes.get(p.tape);
        Integer death = deaths[tape.speaker];
        int dead = death == null || day < death ? -1 : day - death;
        List<Integer> in = new ArrayList<>();
        for (int topic = 0; topic < topics.size(); topic++) {
            if (topicIsIn(p.topic, topic)) {
                in.add(topic);
            }
        }
        return new NaiveConsent.Case(kind, use, day - tape.day, dead, piece, p.names, p.names == tape.speaker ? 1 : 0, in);
    }

    private boolean isQuestion(int piece, int day, int kind, int use) {
        return isIn(piece, pieces) && isDay(day) && kind >= 0 && kind < 4 && use >= 0 && use < 4;
    }

    int let(int piece, int day, int kind, int use) {
        if (!isQuestion(piece, day, kind, use)) {
            return NONE;
        }
        NaiveConsent consent = consents[tapes.get(pieces.get(piece).tape).speaker];
        return consent == null ? -3 : consent.let(caseOf(piece, day, kind, use));
    }

    int mask(int piece, int day, int kind, int use) {
        if (!isQuestion(piece, day, kind, use) || pieces.get(piece).names == NONE) {
            return NONE;
        }
        NaiveConsent consent = consents[tapes.get(pieces.get(piece).tape).speaker];
        return consent == null ? NONE : consent.mask(caseOf(piece, day, kind, use));
    }

    private int alike(int person, int traits) {
        int alike = 0;
        for (Person other : persons) {
            boolean all = true;
            for (int i = 0; i < 4; i++) {
                all &= (traits & 1 << i) == 0 || other.traits[i] == persons.get(person).traits[i];
            }
            alike += all ? 1 : 0;
        }
        return alike;
    }

    private boolean knowsName(int asker, int person) {
        for (int i = 0; i < pieces.size(); i++) {
            if (heard[asker][i] == 2 && pieces.get(i).names == person) {
                return true;
            }
        }
        return false;
    }

    private int traitsOf(int asker, int person) {
        int traits = 0;
        for (int i = 0; i < pieces.size(); i++) {
            traits |= heard[asker][i] == 3 && pieces.get(i).names == person ? pieces.get(i).tells : 0;
        }
        return traits;
    }

    int would(int asker, int piece, int copy, int day, int use) {
        if (!isIn(asker, askers) || !(copy == NONE || isIn(copy, copies))) {
            return NONE;
        }
        int kind = askers.get(asker);
        if (!isQuestion(piece, day, kind, use)) {
            return NONE;
        }
        int lag = copy == NONE ? 0 : copies.get(copy);
        if (taken[piece] != null && day >= taken[piece] + lag) {
            return 0;
        }
        if (let(piece, day, kind, use) < 0) {
            return 1;
        }
        if (mask(piece, day, kind, use) == NONE) {
            return 2;
        }
        int person = pieces.get(piece).names;
        boolean few = alike(person, traitsOf(asker, person) | pieces.get(piece).tells) < bound;
        return few && !knowsName(asker, person) ? 4 : 3;
    }

    int ask(int asker, int piece, int copy, int day, int use) {
        int way = would(asker, piece, copy, day, use);
        if (way == 2 || (way == 3 && heard[asker][piece] == 0)) {
            heard[asker][piece] = way;
        }
        return way;
    }

    int heard(int asker, int piece) {
        return isIn(asker, askers) && isIn(piece, pieces) ? heard[asker][piece] : NONE;
    }

    int could(int asker, int person) {
        if (!isIn(asker, askers) || !isIn(person, persons)) {
            return NONE;
        }
        return knowsName(asker, person) ? 1 : alike(person, traitsOf(asker, person));
    }

    int seconds(int topic, int asker) {
        if (!isIn(topic, topics) || !(asker == NONE || isIn(asker, askers))) {
            return NONE;
        }
        int sum = 0;
        for (int i = 0; i < pieces.size(); i++) {
            if (topicIsIn(pieces.get(i).topic, topic) && (asker == NONE || heard[asker][i] > 0)) {
                sum += pieces.get(i).to - pieces.get(i).from;
            }
        }
        return sum;
    }

    int opens(int piece, int day, int kind, int use) {
        if (!isQuestion(piece, day, kind, use)) {
            return NONE;
        }
        for (int d = day; d <= 9999; d++) {
            if (let(piece, d, kind, use) >= 0) {
                return d;
            }
        }
        return NONE;
    }

    int at(int tape, int second) {
        for (int i = 0; i < pieces.size(); i++) {
            Piece p = pieces.get(i);
            if (p.tape == tape && p.from <= second && second < p.to) {
                return i;
            }
        }
        return NONE;
    }

    private static boolean isEvent(int event) {
        return event >= 0 && event <= 9;
    }

    // Event e is node e + 1, and node 0 is the day 0.
    int span(int event, int a, int b) {
        if (!isEvent(event) || !isDay(a) || !isDay(b) || a > b) {
            return NONE;
        }
        return added(tellings, List.of(new Limit(0, event + 1, b), new Limit(event + 1, 0, -a)), 12);
    }

    int behind(int event, int other, int d) {
        if (!isEvent(event) || !isEvent(other) || event == other || d < -9999 || d > 9999) {
            return NONE;
        }
        return added(tellings, List.of(new Limit(event + 1, other + 1, -d)), 12);
    }

    int same(int event, int other) {
        if (!isEvent(event) || !isEvent(other) || event == other) {
            return NONE;
        }
        return added(tellings, List.of(new Limit(event + 1, other + 1, 0), new Limit(other + 1, event + 1, 0)), 12);
    }

    /** The tightest limits between all nodes by the first n tellings but some; null: they quarrel. */
    private int[][] limits(int n, int out) {
        int[][] most = new int[11][11];
        for (int i = 0; i < 11; i++) {
            for (int j = 0; j < 11; j++) {
                most[i][j] = i == j || j == 0 ? 0 : 9999;
            }
        }
        for (int i = 0; i < n; i++) {
            if ((out & 1 << i) == 0) {
                for (Limit limit : tellings.get(i)) {
                    most[limit.from][limit.to] = Math.min(most[limit.from][limit.to], limit.most);
                }
            }
        }
        for (int k = 0; k < 11; k++) {
            for (int i = 0; i < 11; i++) {
                for (int j = 0; j < 11; j++) {
                    most[i][j] = Math.min(most[i][j], most[i][k] + most[k][j]);
                }
                if (most[i][i] < 0) {
                    return null;
                }
            }
        }
        return most;
    }

    /** Whether a set comes ahead of another: fewer, or the greatest that only one has is in it. */
    private static boolean isAhead(int set, int other) {
        int fewer = Integer.bitCount(set) - Integer.bitCount(other);
        return fewer < 0 || (fewer == 0 && set != other && (set & Integer.highestOneBit(set ^ other)) != 0);
    }

    int left(int n) {
        if (n < 0 || n > tellings.size()) {
            return NONE;
        }
        int best = (1 << n) - 1;
        for (int out = 0; out < 1 << n; out++) {
            if (isAhead(out, best) && limits(n, out) != null) {
                best = out;
            }
        }
        return best;
    }

    int when(int event, int n, int what) {
        if (!isEvent(event) || n < 0 || n > tellings.size() || what < 0 || what > 1) {
            return NONE;
        }
        int[][] most = limits(n, left(n));
        return what == 0 ? -most[event + 1][0] : most[0][event + 1];
    }

    int count(int what) {
        return switch (what) {
            case 0 -> persons.size();
            case 1 -> topics.size();
            case 2 -> tapes.size();
            case 3 -> pieces.size();
            case 4 -> askers.size();
            case 5 -> copies.size();
            case 6 -> tellings.size();
            case 7 -> bytes.size();
            case 8 -> bound;
            default -> NONE;
        };
    }
}
