import java.util.Random;

/** Random runs of calls (of fixed seeds), each answer checked against NaiveHouse. */
public final class RandomRunsTests {
    private static final int RUNS = 1500;
    private static final int CALLS = 512;
    private static final String[] VARS = {"kind", "use", "age", "dead", "piece", "names", "own"};
    private static final String[] SIGNS = {"==", "!=", "<", "<="};
    private static final Check CHECK = new Check();

    private final Random random;
    private final TapeHouse house = new TapeHouse();
    private final NaiveHouse naive = new NaiveHouse();
    private final String run;

    private RandomRunsTests(int seed) {
        random = new Random(seed);
        run = "run " + seed + ": ";
    }

    public static void main(String[] args) {
        for (int seed = 0; seed < RUNS; seed++) {
            RandomRunsTests runs = new RandomRunsTests(seed);
            int style = seed % 4;
            for (int i = 0; i < CALLS; i++) {
                runs.call(style, i);
            }
        }
        CHECK.end();
    }

    private void due(String call, long got, long want) {
        CHECK.due(run + call, got, want);
    }

    private void due(String call, boolean got, boolean want) {
        CHECK.due(run + call, got, want);
    }

    private int upTo(int n) {
        return random.nextInt(n + 1);
    }

    private boolean once(int n) {
        return random.nextInt(n) == 0;
    }

    /** Mostly one of what is there (and -1 or one too many at times), seldom any int. */
    private int one(int size) {
        return once(60) ? random.nextInt() : once(12) ? random.nextInt(size + 2) - 1 : random.nextInt(Math.max(1, size));
    }

    private int oneOf(int what) {
        return one(naive.count(what));
    }

    private int day() {
        return once(40) ? random.nextInt(3) - 1 : once(40) ? 9998 + upTo(2) : once(3) ? upTo(9999) : upTo(60);
    }

    private int anyOf(int what) {
        return once(3) ? -1 : oneOf(what);
    }

    private void call(int style, int i) {
        if (style == 3) {
            tellingCall();
        } else if (i < 60 || once(25)) {
            buildingCall();
        } else if (once(style == 0 ? 3 : 12)) {
            reading(style);
        } else if (once(40)) {
            tellingCall();
        } else {
            askingCall();
        }
    }

    private void buildingCall() {
        switch (upTo(11)) {
            case 0, 1 -> {
                int a = one(4);
                int b = one(2);
                int c = one(2);
                int d = one(2);
                due("person", house.person(a, b, c, d), naive.person(a, b, c, d));
            }
            case 2 -> {
                int under = anyOf(1);
                due("topic", house.topic(under), naive.topic(under));
            }
            case 3 -> {
                int speaker = oneOf(0);
                int day = day();
                int length = once(9) ? 999 + upTo(1) : upTo(300);
                due("tape", house.tape(speaker, day, length), naive.tape(speaker, day, length));
            }
            case 4, 5, 6, 7, 8 -> pieceCall();
            case 9 -> {
                int kind = one(4);
                due("asker", house.asker(kind), naive.asker(kind));
            }
            case 10 -> {
                int lag = once(3) ? one(401) : upTo(20);
                due("copy", house.copy(lag), naive.copy(lag));
            }
            default -> eventfulCall();
        }
    }

    private void pieceCall() {
        int tape = oneOf(2);
        int from = upTo(300) - 2;
        int to = from + upTo(20);
        int topic = oneOf(1);
        int names = anyOf(0);
        int tells = names == -1 && !once(10) ? 0 : one(16);
        due("piece", house.piece(tape, from, to, topic, names, tells), naive.piece(tape, from, to, topic, names, tells));
    }

    private void eventfulCall() {
        int day = day();
        switch (upTo(2)) {
            case 0 -> {
                int k = once(2) ? upTo(13) : upTo(3);
                due("bound", house.bound(k), naive.bound(k));
            }
            case 1 -> {
                int person = oneOf(0);
                due("dies", house.dies(person, day), naive.dies(person, day));
            }
            default -> {
                int piece = oneOf(3);
                due("takes", house.takes(piece, day), naive.takes(piece, day));
            }
        }
    }

    private void askingCall() {
        int piece = oneOf(3);
        int asker = oneOf(4);
        int copy = anyOf(5);
        int kind = one(4);
        int use = one(4);
        int day = day();
        switch (upTo(14)) {
            case 0 -> due("let", house.let(piece, day, kind, use), naive.let(piece, day, kind, use));
            case 1 -> due("mask", house.mask(piece, day, kind, use), naive.mask(piece, day, kind, use));
            case 2, 3 -> due("would", house.would(asker, piece, copy, day, use), naive.would(asker, piece, copy, day, use));
            case 4, 5, 6, 7 -> due("ask", house.ask(asker, piece, copy, day, use), naive.ask(asker, piece, copy, day, use));
            case 8 -> due("heard", house.heard(asker, piece), naive.heard(asker, piece));
            case 9, 10 -> {
                int person = oneOf(0);
                due("could", house.could(asker, person), naive.could(asker, person));
            }
            case 11 -> {
                int topic = oneOf(1);
                int hearer = anyOf(4);
                due("seconds", house.seconds(topic, hearer), naive.seconds(topic, hearer));
            }
            case 12 -> {
                int tape = oneOf(2);
                int second = upTo(310) - 5;
                due("at", house.at(tape, second), naive.at(tape, second));
            }
            case 13 -> {
                int what = upTo(10) - 1;
                due("count", house.count(what), naive.count(what));
            }
            default -> {
                if (once(4)) {
                    due("opens", house.opens(piece, day, kind, use), naive.opens(piece, day, kind, use));
                }
            }
        }
    }

    private void tellingCall() {
        int event = once(30) ? one(10) : upTo(4);
        int other = once(30) ? one(10) : upTo(4);
        int a = once(20) ? day() : upTo(20);
        int b = a + upTo(10);
        int d = once(9) ? upTo(20002) - 10001 : upTo(30) - 15;
        int n = once(9) ? upTo(14) - 1 : naive.count(6);
        int what = once(20) ? upTo(3) - 1 : upTo(1);
        switch (upTo(40)) {
            case 0, 1 -> due("span", house.span(event, a, b), naive.span(event, a, b));
            case 2, 3 -> due("behind", house.behind(event, other, d), naive.behind(event, other, d));
            case 4 -> due("same", house.same(event, other), naive.same(event, other));
            case 5, 6, 7 -> due("left", house.left(n), naive.left(n));
            case 8, 9, 10 -> due("when", house.when(event, n, what), naive.when(event, n, what));
            default -> due("count", house.count(6), naive.count(6));
        }
    }

    private void reading(int style) {
        String text = style == 0 ? spoilt(text(upTo(18))) : text(upTo(6));
        for (int at = 0; at < text.length(); at += 20) {
            int[] five = Check.fed(text, at);
            due("feed", house.feed(five[0], five[1], five[2], five[3], five[4]), naive.feed(five[0], five[1], five[2], five[3], five[4]));
        }
        int n = once(20) ? upTo(50) - 5 : (20 - text.length() % 20) % 20;
        due("back", house.back(n), naive.back(n));
        int person = oneOf(0);
        due("read of " + text, house.read(person), naive.read(person));
        due("place of " + text, house.place(), naive.place());
    }

    private String text(int rules) {
        StringBuilder text = new StringBuilder();
        int long1 = once(6) ? 12 : 2;
        for (int i = 0; i < rules; i++) {
            text.append(once(3) ? "mask" : once(3) ? "keep" : "let");
            if (!once(6)) {
                text.append(" if ").append(condition(long1));
            }
            text.append(once(2) ? ";" : "; ");
        }
        return text.toString();
    }

    private String condition(int most) {
        StringBuilder text = new StringBuilder(literal());
        for (int i = upTo(most); i > 0; i--) {
            text.append(once(2) ? " and " : " or ").append(literal());
        }
        return text.toString();
    }

    private String literal() {
        if (once(3)) {
            return "in " + (once(40) ? upTo(12) : upTo(Math.max(0, naive.count(1) - 1)));
        }
        return sum(0) + (once(2) ? " " : "") + SIGNS[upTo(3)] + (once(2) ? " " : "") + sum(0);
    }

    private String sum(int depth) {
        StringBuilder text = new StringBuilder(product(depth));
        while (once(4)) {
            text.append(once(2) ? "+" : " - ").append(product(depth));
        }
        return text.toString();
    }

    private String product(int depth) {
        StringBuilder text = new StringBuilder(unit(depth));
        while (once(4)) {
            text.append("*").append(unit(depth));
        }
        return text.toString();
    }

    private String unit(int depth) {
        if (depth < 7 && once(depth == 0 ? 6 : 2 + depth / 3)) {
            return "(" + sum(depth + 1) + ")";
        }
        return once(2) ? VARS[upTo(6)] : String.valueOf(once(4) ? upTo(9999) : upTo(5));
    }

    private String spoilt(String text) {
        if (once(3)) {
            return text;
        }
        String signs = ";+-*=!<() \t\nabz019?\u0000\u00e4";
        String[] words = {"let", "if", "or ", "and ", "in ", "kind", "own", "((((((", "))", "==", "abcdefgh", "abcdefghi", "12345", "9999"};
        StringBuilder spoilt = new StringBuilder(text);
        for (int i = upTo(2); i >= 0; i--) {
            int at = upTo(spoilt.length());
            switch (upTo(3)) {
                case 0 -> spoilt.insert(at, signs.charAt(upTo(signs.length() - 1)));
                case 1 -> spoilt.insert(at, words[upTo(words.length - 1)]);
                case 2 -> spoilt.delete(at, Math.min(spoilt.length(), at + 1 + upTo(2)));
                default -> spoilt.setLength(at);
            }
        }
        return spoilt.toString();
    }
}
