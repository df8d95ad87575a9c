/** The edges of what rules say and askers get: 'Terms' II and III, and promises 15 to 23. */
public final class EdgesOfAskingTests {
    private static final int NONE = TapeHouse.NONE;
    private static final Edges EDGES = new Edges();
    private static final String LET = "Whether a PIECE is LET on a DAY to a KIND for a use: the let RULE by which; "
        + "-2: a keep RULE holds first; -3: none holds; NONE: no such ones.";
    private static final String MASK =
        "The first mask RULE that holds for it likewise; NONE: none, it NAMES nobody, no such ones.";
    private static final String WOULD = "What an ASKER would get for asking (copy NONE: in the house): 0 TAKEN, 1 KEPT, "
        + "2 with its name, 3 MASKED, 4 HIDDEN. NONE: no such ones. (Nothing is heard.)";
    private static final String ASK = "An ASKER asks: as would(), and it has heard it then (2, 3).";
    private static final String HEARD =
        "How an ASKER has heard a PIECE: 0 not, 2 with its name, 3 MASKED; NONE: no such ones.";
    private static final String COULD = "1 if it has heard a PIECE that NAMES it with its name; else those of the town that "
        + "have all TRAITS alike that PIECES heard MASKED tell of it. NONE: no such ones.";
    private static final String SECONDS =
        "Seconds of PIECES IN a TOPIC that an ASKER has heard (ASKER NONE: all PIECES); NONE: no such ones.";
    private static final String OPENS =
        "The first DAY from a DAY on, up to 9999, on which a PIECE is LET to a KIND for a use; NONE: none, no such ones.";
    private static final String AT = "The PIECE of a TAPE in which a second lies; NONE: none, no such ones.";
    private static final String TAKEN = "it was TAKEN BACK from a DAY on, and that DAY and the COPY's LAG together "
        + "(in the house no LAG) are this DAY or ahead of it.";
    private static final String HIDDEN = "If the PERSONS of the town that have these TRAITS alike are fewer than THE BOUND "
        + "(1 .. 12; 2 at first), and it has not heard a PIECE that NAMES this PERSON with its name: HIDDEN.";
    private static final String KNOWS =
        "what the ASKER would know of that PERSON: all TRAITS that PIECES which it has heard MASKED tell of it, and these.";
    private static final String FOR_EVER = "An ASKER that heard a PIECE has heard it so for ever (the latest time's way "
        + "counts: MASKED or with its name; what was heard with its name stays so).";
    private static final String IS_LET = "A PIECE is LET on a DAY to a KIND for a use, if of the let and keep RULES the "
        + "first that holds (or has no COND) is a let one; without any it is not.";
    private static final String IS_MASKED = "It is MASKED if a mask RULE holds (or has no COND), and it NAMES somebody.";
    private static final String WRAP = "Ints of 32 bits that wrap.";

    public static void main(String[] args) {
        letArguments();
        letAnswers();
        maskArguments();
        maskAnswers();
        sixteenRules();
        manyLiterals();
        anyAndAll();
        binding();
        comparisons();
        wraps();
        kindAndUse();
        age();
        dead();
        pieceNamesOwn();
        inTopics();
        askingArguments();
        askedInVain();
        nothingIsHeard();
        heardThen();
        takenByLag();
        takenOnTheLastDays();
        takenFirst();
        askedAtEachPlace();
        boundEdges();
        boundOfTwelve();
        boundBeyondTheTown();
        traitsTogether();
        knowledgeOfEachAsker();
        namedThenMasked();
        heardForEver();
        heardArguments();
        couldArguments();
        couldAnswers();
        secondsArguments();
        secondsAnswers();
        opensArguments();
        opensDays();
        atArguments();
        atSeconds();
        EDGES.end();
    }

    private static void letting(Script script) {
        Edges.smallHouse(script);
        script.consent(0, "let;mask;");
    }

    private static void lettingToAskers(Script script) {
        letting(script);
        script.given("bound(1)", "asker(0)", "asker(3)", "copy(0)", "copy(400)", "piece(0, 10, 30, 0, 0, 1)");
    }

    private static void thirtyPieces(Script script) {
        script.given("person(0, 0, 0, 0)", "topic(NONE)", "tape(0, 0, 30)").consent(0, "let;mask;");
        for (int i = 0; i < 30; i++) {
            script.given("piece(0, " + i + ", " + (i + 1) + ", 0, 0, 0)");
        }
    }

    private static void letArguments() {
        EDGES.range(LET, EdgesOfAskingTests::letting, "let($, 60, 0, 0)", 0, 0, 0, NONE);
        EDGES.range(LET, EdgesOfAskingTests::thirtyPieces, "let($, 60, 0, 0)", 0, 29, 0, NONE);
        EDGES.range(LET, EdgesOfAskingTests::letting, "let(0, $, 0, 0)", 0, 9999, 0, NONE);
        EDGES.range(LET, EdgesOfAskingTests::letting, "let(0, 60, $, 0)", 0, 3, 0, NONE);
        EDGES.range(LET, EdgesOfAskingTests::letting, "let(0, 60, 0, $)", 0, 3, 0, NONE);
        // Without a consent the wrong ones are no such ones as well.
        EDGES.range(LET, Edges::smallHouse, "let($, 60, 0, 0)", 0, 0, -3, NONE);
    }

    private static void letAnswers() {
        EDGES.house(IS_LET).due("let(0, 60, 0, 0)", -3).consent(0, "").due("let(0, 60, 0, 0)", -3).consent(0, "mask;mask;")
            .due("let(0, 60, 0, 0)", -3).consent(0, "keep;let;").due("let(0, 60, 0, 0)", -2).consent(0, "let;keep;")
            .due("let(0, 60, 0, 0)", 0).consent(0, "mask;let;keep;").due("let(0, 60, 0, 0)", 1);
        EDGES.house(IS_LET).consent(0, "let if kind == 0; keep if kind < 2; let if kind < 3; mask; mask;").due("let(0, 60, 0, 0)", 0)
            .due("let(0, 60, 1, 0)", -2).due("let(0, 60, 2, 0)", 2).due("let(0, 60, 3, 0)", -3);
        EDGES.house(IS_LET).consent(0, "keep if 1 == 2 or 2 == 3; let if 1 == 1 and 1 == 2 or 3 == 3;").due("let(0, 60, 0, 0)", 1);
        EDGES.house(LET).consent(0, "keep if 1 == 2;").due("let(0, 60, 0, 0)", -3).consent(0, "keep if 1 == 1;").due("let(0, 60, 0, 0)", -2)
            .given("takes(0, 0)").due("let(0, 60, 0, 0)", -2).consent(0, "let;").due("let(0, 60, 0, 0)", 0);
    }

    private static void maskArguments() {
        EDGES.range(MASK, EdgesOfAskingTests::letting, "mask($, 60, 0, 0)", 0, 0, 1, NONE);
        EDGES.range(MASK, EdgesOfAskingTests::thirtyPieces, "mask($, 60, 0, 0)", 0, 29, 1, NONE);
        EDGES.range(MASK, EdgesOfAskingTests::letting, "mask(0, $, 0, 0)", 0, 9999, 1, NONE);
        EDGES.range(MASK, EdgesOfAskingTests::letting, "mask(0, 60, $, 0)", 0, 3, 1, NONE);
        EDGES.range(MASK, EdgesOfAskingTests::letting, "mask(0, 60, 0, $)", 0, 3, 1, NONE);
    }

    private static void maskAnswers() {
        Script script = EDGES.house(IS_MASKED).given("piece(0, 10, 20, 0, NONE, 0)", "piece(0, 20, 30, 0, 0, 0)").due("mask(0, 60, 0, 0)", NONE);
        script.consent(0, "let;").due("mask(0, 60, 0, 0)", NONE).consent(0, "mask;").due("mask(0, 60, 0, 0)", 0);
        script.due("mask(1, 60, 0, 0)", NONE).due("mask(2, 60, 0, 0)", 0).consent(0, "keep; mask if kind == 1; mask; mask;");
        script.due("mask(0, 60, 1, 0)", 1).due("mask(0, 60, 0, 0)", 2).due("mask(1, 60, 1, 0)", NONE);
        script.consent(0, "mask if 1 == 2; let;").due("mask(0, 60, 0, 0)", NONE);
    }

    private static void sixteenRules() {
        String fifteen = "let if 1 == 2;".repeat(15);
        EDGES.house(IS_LET).consent(0, fifteen + "let if 1 == 2;").due("let(0, 60, 0, 0)", -3).due("mask(0, 60, 0, 0)", NONE)
            .consent(0, fifteen + "let if 1 == 1;").due("let(0, 60, 0, 0)", 15).consent(0, fifteen + "keep if kind == 1;").due("let(0, 60, 0, 0)", -3)
            .due("let(0, 60, 1, 0)", -2).consent(0, fifteen + "let if age == 9949;").due("opens(0, 0, 0, 0)", 9999).due("let(0, 9998, 0, 0)", -3);
        EDGES.house(IS_MASKED).consent(0, fifteen + "mask if kind == 1;").due("mask(0, 60, 0, 0)", NONE).due("mask(0, 60, 1, 0)", 15)
            .due("let(0, 60, 1, 0)", -3).due("opens(0, 0, 1, 0)", NONE);
    }

    /** As many literals as 400 tokens can hold. */
    private static void manyLiterals() {
        String and = "ALL: LIT {'and' LIT}.";
        String or = "COND: ALL {'or' ALL}.";
        EDGES.house(and).consent(0, "let if in 0" + " and in 0".repeat(131) + ";").due("let(0, 60, 0, 0)", 0);
        EDGES.house(and).given("topic(0)").consent(0, "let if in 0" + " and in 0".repeat(130) + " and in 1;").due("let(0, 60, 0, 0)", -3);
        EDGES.house(or).given("topic(0)").consent(0, "let if in 1" + " or in 1".repeat(131) + ";").due("let(0, 60, 0, 0)", -3);
        EDGES.house(or).given("topic(0)").consent(0, "let if in 1" + " or in 1".repeat(130) + " or in 0;").due("let(0, 60, 0, 0)", 0);
    }

    /** Every way in which three literals hold, joined in every way. */
    private static void anyAndAll() {
        for (int bits = 0; bits < 8; bits++) {
            boolean a = (bits & 1) != 0;
            boolean b = (bits & 2) != 0;
            boolean c = (bits & 4) != 0;
            String[] lits = {a ? "1 == 1" : "1 == 2", b ? "in 0" : "in 1", c ? "age == 10" : "age == 11"};
            joins(lits, " and ", " and ", a && b && c);
            joins(lits, " and ", " or ", a && b || c);
            joins(lits, " or ", " and ", a || b && c);
            joins(lits, " or ", " or ", a || b || c);
        }
    }

    private static void joins(String[] lits, String first, String second, boolean want) {
        EDGES.house("COND: ALL {'or' ALL}. ALL: LIT {'and' LIT}.").given("topic(NONE)")
            .consent(0, "let if " + lits[0] + first + lits[1] + second + lits[2] + ";").due("let(0, 60, 0, 0)", want ? 0 : -3);
    }

    /** The parts first, and from the left on, whatever stood in the text ahead of them. */
    private static void binding() {
        String sentence = "E: PART {('+' | '-') PART}. PART: UNIT {'*' UNIT}. UNIT: INT | VAR | '(' E ')'.";
        String[] equal = {"1+2*3 == 7", "(1+2*3) == 7", "2*3+1 == 7", "2*(3+1) == 8", "9-3-2 == 4", "9-(3-2) == 8", "9-3+2 == 8", "9-2*3*1 == 3",
            "9-3*2-1 == 2", "(9-3)*(2-1) == 6", "2*3*4-5*6+7 == 1", "7 == 1+2*3", "((((((1+2*3)))))) == 7", "1+2*(3+4*(5+6*(7+8*9))) == 3839",
            "1-2*(1-2*(1-2*(1-2*(1-2*(1-2*(1-2)))))) == 0-85"};
        holdsAlso(sentence, equal);
    }

    private static void holdsAlso(String sentence, String[] conditions) {
        for (String first : conditions) {
            for (String second : conditions) {
                holds(sentence, first + " and " + second, true);
            }
        }
    }

    private static void holds(String sentence, String condition, boolean want) {
        EDGES.house(sentence).consent(0, "let if " + condition + ";").due("let(0, 60, 0, 0)", want ? 0 : -3);
    }

    private static void comparisons() {
        String sentence = "E ('==' | '!=' | '<' | '<=') E";
        String[] signs = {"==", "!=", "<", "<="};
        for (int a = 0; a < 3; a++) {
            boolean[] want = {a == 1, a != 1, a < 1, a <= 1};
            for (int i = 0; i < signs.length; i++) {
                holds(sentence, a + " " + signs[i] + " 1", want[i]);
                holds(sentence, "1 - " + a + " " + signs[i] + " 2 - 2", new boolean[] {a == 1, a != 1, a > 1, a >= 1}[i]);
            }
        }
    }

    private static void wraps() {
        String most = "(8192*8192*32-1)";
        String least = "8192*8192*32";
        holds(WRAP, most + " + 1 == " + least, true);
        holds(WRAP, least + " - 1 == " + most, true);
        holds(WRAP, "0 < " + most, true);
        holds(WRAP, least + " < 0", true);
        // Not by their difference, which wraps as well.
        holds(WRAP, least + " < " + most, true);
        holds(WRAP, most + " < " + least, false);
        holds(WRAP, least + " <= 1", true);
        holds(WRAP, most + " <= 0 - 2", false);
        holds(WRAP, most + " + " + most + " == 0 - 2", true);
        holds(WRAP, "0 - " + least + " == " + least, true);
        holds(WRAP, least + " * (0 - 1) == " + least, true);
        holds(WRAP, least + " * 2 == 0", true);
        holds(WRAP, most + " * " + most + " == 1", true);
        holds(WRAP, "9999*9999*9999 == " + (9999 * 9999 * 9999 < 0 ? "0 - " : "") + inSmallInts(Math.abs(9999 * 9999 * 9999)), true);
        holds(WRAP, "9999*9999*99 < 0", 9999 * 9999 * 99 < 0);
        holds(WRAP, "8192*8192*31 + 8192*8191 + 8191 == " + most, true);
        holds(WRAP, "8192*8192*31 + 8192*8191 + 8192 == " + least, true);
    }

    /** An int from 0 on, written by INTS of four digits at most. */
    private static String inSmallInts(int n) {
        String tenThousand = "*(9999+1) + ";
        return "((" + n / 100_000_000 + tenThousand + n / 10_000 % 10_000 + ")" + tenThousand + n % 10_000 + ")";
    }

    private static void kindAndUse() {
        Script script = EDGES.house("kind: the ASKER's KIND; use (0 .. 3);").consent(0,
            "let if kind == 0 and use == 3; let if kind == 3 and use == 0; let if kind == 1 and use == 2; keep;");
        script.due("let(0, 60, 0, 3)", 0).due("let(0, 60, 3, 0)", 1).due("let(0, 60, 1, 2)", 2).due("let(0, 60, 2, 1)", -2);
        script.given("asker(3)", "asker(0)").due("would(0, 0, NONE, 60, 0)", 2).due("would(1, 0, NONE, 60, 0)", 1)
            .due("would(1, 0, NONE, 60, 3)", 2).due("would(0, 0, NONE, 60, 3)", 1);
    }

    private static void age() {
        String sentence = "age: days since the TAPE was made (below 0 if it was not yet)";
        Script script = EDGES.of(sentence).given("person(0, 0, 0, 0)", "topic(NONE)", "tape(0, 0, 9)", "tape(0, 9999, 9)", "tape(0, 50, 9)",
            "piece(0, 0, 1, 0, NONE, 0)", "piece(1, 0, 1, 0, NONE, 0)", "piece(2, 0, 1, 0, NONE, 0)");
        script.consent(0, "let if age == 0; let if age == 9999; let if age == 0-9999; let if age == 0-1; let if age == 1;");
        script.due("let(0, 0, 0, 0)", 0).due("let(0, 1, 0, 0)", 4).due("let(0, 9998, 0, 0)", -3).due("let(0, 9999, 0, 0)", 1);
        script.due("let(1, 0, 0, 0)", 2).due("let(1, 1, 0, 0)", -3).due("let(1, 9998, 0, 0)", 3).due("let(1, 9999, 0, 0)", 0);
        script.due("let(2, 49, 0, 0)", 3).due("let(2, 50, 0, 0)", 0).due("let(2, 51, 0, 0)", 4);
    }

    private static void dead() {
        String sentence = "dead: days since the SPEAKER's DEATH, -1 if that is not yet, or not told";
        Script script = EDGES.house(sentence).consent(0, "let if dead == 0-1; let if dead == 0; let if dead == 1; let if dead == 9899; keep;");
        script.due("let(0, 0, 0, 0)", 0).due("let(0, 9999, 0, 0)", 0).given("dies(1, 40)").due("let(0, 40, 0, 0)", 0).due("let(0, 41, 0, 0)", 0);
        script.given("dies(0, 100)").due("let(0, 0, 0, 0)", 0).due("let(0, 98, 0, 0)", 0).due("let(0, 99, 0, 0)", 0).due("let(0, 100, 0, 0)", 1);
        script.due("let(0, 101, 0, 0)", 2).due("let(0, 102, 0, 0)", -2).due("let(0, 9999, 0, 0)", 3);
    }

    private static void pieceNamesOwn() {
        Script script = EDGES.of("piece: its number; names: the PERSON whom it NAMES (-1 none); own: 1 if it NAMES its SPEAKER, else 0.");
        for (int i = 0; i < 12; i++) {
            script.given("person(0, 0, 0, 0)");
        }
        script.given("topic(NONE)", "tape(11, 0, 40)");
        for (int i = 0; i < 30; i++) {
            script.given("piece(0, " + i + ", " + (i + 1) + ", 0, " + (i - 1) % 12 + ", 0)");
        }
        script.consent(11, "let if names == 0-1 and own == 0; let if names == 11 and own == 1 and piece < 29; keep if own != 0; "
            + "let if piece == 29; let if piece == 1 and names == 0; let if names == 10;");
        script.due("let(0, 0, 0, 0)", 0).due("let(12, 0, 0, 0)", 1).due("let(24, 0, 0, 0)", 1).due("let(29, 0, 0, 0)", 3);
        script.due("let(1, 0, 0, 0)", 4).due("let(11, 0, 0, 0)", 5).due("let(13, 0, 0, 0)", -3).due("let(23, 0, 0, 0)", 5);
        // Nobody is nobody's own.
        EDGES.house("own: 1 if it NAMES its SPEAKER, else 0.").given("piece(0, 10, 20, 0, NONE, 0)", "piece(0, 20, 30, 0, 0, 0)")
            .consent(0, "let if own == 1; let if own == 0;").due("let(0, 60, 0, 0)", 1).due("let(1, 60, 0, 0)", 1).due("let(2, 60, 0, 0)", 0);
    }

    private static void inTopics() {
        Script script = EDGES.of("in T: the PIECE's TOPIC is IN TOPIC T.").given("person(0, 0, 0, 0)", "tape(0, 0, 40)");
        for (int i = 0; i < 12; i++) {
            script.given("topic(" + (i == 6 ? NONE : i - 1) + ")", "piece(0, " + i + ", " + (i + 1) + ", " + i + ", NONE, 0)");
        }
        for (int topic = 0; topic < 12; topic++) {
            script.consent(0, "let if in " + topic + "; keep;");
            for (int piece = 0; piece < 12; piece++) {
                boolean in = piece >= topic && piece / 6 == topic / 6;
                script.due("let(" + piece + ", 0, 0, 0)", in ? 0 : -2);
            }
        }
    }

    private static void askingArguments() {
        for (String call : new String[] {"would", "ask"}) {
            String sentence = call.equals("would") ? WOULD : ASK;
            EDGES.range(sentence, EdgesOfAskingTests::lettingToAskers, call + "($, 0, NONE, 60, 0)", 0, 1, 3, NONE);
            EDGES.range(sentence, EdgesOfAskingTests::lettingToAskers, call + "(0, $, NONE, 60, 0)", 0, 1, 3, NONE);
            EDGES.range(sentence, EdgesOfAskingTests::lettingToAskers, call + "(0, 0, $, 60, 0)", -1, 1, 3, NONE);
            EDGES.range(sentence, EdgesOfAskingTests::lettingToAskers, call + "(0, 0, 1, $, 0)", 0, 9999, 3, NONE);
            EDGES.range(sentence, EdgesOfAskingTests::lettingToAskers, call + "(0, 0, NONE, 60, $)", 0, 3, 3, NONE);
            EDGES.range(sentence, s -> {
                thirtyPieces(s);
                s.given("bound(1)", "asker(0)", "asker(0)", "asker(0)", "asker(0)", "asker(0)", "asker(0)");
            }, call + "(5, $, NONE, 60, 0)", 0, 29, 3, NONE);
            EDGES.range(sentence, s -> {
                lettingToAskers(s);
                s.given("copy(0)", "copy(0)", "asker(0)", "asker(0)", "asker(0)", "asker(0)");
            }, call + "($, 0, 3, 60, 0)", 0, 5, 3, NONE);
            EDGES.range(sentence, s -> {
                letting(s);
                s.given("bound(1)", "asker(0)");
            }, call + "(0, 0, $, 60, 0)", -1, -1, 3, NONE);
        }
    }

    /** What is refused, and what is TAKEN, KEPT or HIDDEN, is not heard. */
    private static void askedInVain() {
        Script script = EDGES.house(ASK).given("asker(0)", "asker(1)", "piece(0, 10, 20, 0, 0, 0)").consent(0, "keep if use == 3; let; mask if use == 1;");
        script.refuses("ask(0, 0, NONE, 60, 3)", 1).refuses("ask(0, 0, NONE, 60, 1)", 4).given("takes(1, 60)").refuses("ask(0, 1, NONE, 60, 0)", 0);
        script.due("heard(0, 0)", 0).due("heard(0, 1)", 0).due("could(0, 0)", 2).due("could(0, 1)", 2).due("seconds(0, 0)", 0);
        script.due("ask(0, 0, NONE, 60, 0)", 2).refuses("ask(0, 0, NONE, 60, 3)", 1).due("heard(0, 0)", 2);
    }

    private static void nothingIsHeard() {
        Script script = EDGES.house("(Nothing is heard.)").given("asker(0)").consent(0, "keep if use == 3; let; mask if use == 1;");
        script.refuses("would(0, 0, NONE, 60, 0)", 2).refuses("would(0, 0, NONE, 60, 1)", 4).refuses("would(0, 0, NONE, 60, 3)", 1);
        script.given("bound(1)").refuses("would(0, 0, NONE, 60, 1)", 3).due("heard(0, 0)", 0).due("could(0, 1)", 2).due("seconds(0, 0)", 0);
        script.due("ask(0, 0, NONE, 60, 1)", 3).refuses("would(0, 0, NONE, 60, 0)", 2).due("heard(0, 0)", 3);
    }

    private static void heardThen() {
        Script script = EDGES.house(ASK).given("asker(0)", "asker(0)", "bound(1)", "piece(0, 10, 20, 0, NONE, 0)").consent(0, "let; mask if use == 1;");
        script.due("ask(0, 0, NONE, 60, 1)", 3).due("heard(0, 0)", 3).due("heard(1, 0)", 0).due("heard(0, 1)", 0);
        script.due("ask(1, 0, NONE, 60, 0)", 2).due("heard(1, 0)", 2).due("heard(0, 0)", 3);
        // A piece that names nobody is never masked.
        script.due("ask(0, 1, NONE, 60, 1)", 2).due("heard(0, 1)", 2).due("heard(1, 1)", 0).due("could(0, 0)", 2).due("could(0, 1)", 1);
    }

    private static void takenByLag() {
        Script script = EDGES.house(TAKEN).given("asker(0)", "copy(0)", "copy(1)", "copy(400)", "copy(399)").consent(0, "let;").given("takes(0, 70)");
        int[] lags = {0, 0, 1, 400, 399};
        for (int copy = -1; copy < 4; copy++) {
            int from = 70 + lags[copy + 1];
            script.due("would(0, 0, " + copy + ", 0, 0)", 2).due("would(0, 0, " + copy + ", " + (from - 1) + ", 0)", 2);
            script.due("would(0, 0, " + copy + ", " + from + ", 0)", 0).due("would(0, 0, " + copy + ", " + (from + 1) + ", 0)", 0);
            script.due("would(0, 0, " + copy + ", 9999, 0)", 0);
        }
    }

    private static void takenOnTheLastDays() {
        Script script = EDGES.house(TAKEN).given("asker(0)", "copy(400)", "copy(0)", "piece(0, 10, 20, 0, NONE, 0)", "piece(0, 20, 30, 0, NONE, 0)",
            "piece(0, 30, 40, 0, NONE, 0)").consent(0, "let;").given("takes(0, 9599)", "takes(1, 9600)", "takes(2, 9999)", "takes(3, 0)");
        script.due("would(0, 0, 0, 9998, 0)", 2).due("would(0, 0, 0, 9999, 0)", 0).due("would(0, 1, 0, 9999, 0)", 2).due("would(0, 2, 0, 9999, 0)", 2);
        script.due("would(0, 2, 1, 9998, 0)", 2).due("would(0, 2, 1, 9999, 0)", 0).due("would(0, 2, NONE, 9998, 0)", 2).due("would(0, 2, NONE, 9999, 0)", 0);
        script.due("would(0, 3, NONE, 0, 0)", 0).due("would(0, 3, 1, 0, 0)", 0).due("would(0, 3, 0, 399, 0)", 2).due("would(0, 3, 0, 400, 0)", 0);
    }

    private static void takenFirst() {
        Script script = EDGES.house("Else, if it is not LET: KEPT. Else, if it is not MASKED: the ASKER hears it with its name.");
        script.given("asker(0)", "takes(0, 60)").due("would(0, 0, NONE, 59, 0)", 1).due("would(0, 0, NONE, 60, 0)", 0);
        script.consent(0, "keep if use == 1; let; mask;").due("would(0, 0, NONE, 59, 1)", 1).due("would(0, 0, NONE, 60, 1)", 0);
        script.due("would(0, 0, NONE, 59, 0)", 4).due("would(0, 0, NONE, 60, 0)", 0).consent(0, "let;").due("would(0, 0, NONE, 59, 0)", 2);
        script.consent(0, "mask;").due("would(0, 0, NONE, 59, 0)", 1).consent(0, "keep; mask;").due("would(0, 0, NONE, 59, 0)", 1);
    }

    private static void askedAtEachPlace() {
        String sentence = "ASKING on a DAY at a COPY (or, NONE, in the house), for a use, for a PIECE:";
        Script script = EDGES.house(sentence).given("asker(2)", "person(1, 1, 1, 1)", "copy(0)", "copy(1)", "copy(400)", "copy(7)");
        script.consent(0, "keep if age < 20; let if use < 3; mask if use == 1;");
        // Where it is asked counts for what was taken back alone.
        for (int copy = -1; copy < 4; copy++) {
            String where = "would(0, 0, " + copy + ", ";
            script.due(where + "69, 0)", 1).due(where + "70, 0)", 2).due(where + "70, 1)", 3).due(where + "70, 3)", 1);
        }
        script.given("takes(0, 75)");
        int[] lags = {0, 0, 1, 400, 7};
        for (int copy = -1; copy < 4; copy++) {
            String where = "would(0, 0, " + copy + ", ";
            int gone = 75 + lags[copy + 1];
            script.due(where + (gone - 1) + ", 0)", 2).due(where + (gone - 1) + ", 1)", 3).due(where + (gone - 1) + ", 3)", 1);
            script.due(where + gone + ", 0)", 0).due(where + gone + ", 1)", 0).due(where + gone + ", 3)", 0);
        }
        // What was heard at a copy that lags was heard.
        EDGES.house("Else it hears it MASKED.").given("asker(0)", "person(1, 1, 1, 1)", "copy(10)", "takes(0, 75)").consent(0, "let; mask;")
            .due("ask(0, 0, NONE, 80, 0)", 0).due("heard(0, 0)", 0).due("could(0, 1)", 3).due("ask(0, 0, 0, 84, 0)", 3).due("heard(0, 0)", 3)
            .due("could(0, 1)", 2).due("ask(0, 0, 0, 85, 0)", 0).due("heard(0, 0)", 3).due("seconds(0, 0)", 10);
    }

    /** A town of the given persons, of whom the first is spoken of; each piece tells some traits of it. */
    private static Script town(String sentence, String[] persons, int... tells) {
        Script script = EDGES.of(sentence).given("topic(NONE)", "asker(0)", "asker(0)");
        for (String traits : persons) {
            script.given("person(" + traits + ")");
        }
        script.given("tape(" + (persons.length - 1) + ", 0, 999)");
        for (int i = 0; i < tells.length; i++) {
            script.given("piece(0, " + i + ", " + (i + 1) + ", 0, 0, " + tells[i] + ")");
        }
        return script.consent(persons.length - 1, "let; mask if use == 0;");
    }

    private static void boundEdges() {
        String[] persons = {"0, 0, 0, 0", "0, 0, 0, 1", "0, 0, 1, 1", "0, 1, 1, 1", "1, 1, 1, 1"};
        // Alike by no trait, and by the first one, two, three and four: 5, 4, 3, 2 and 1 of them.
        Script script = town(HIDDEN, persons, 0, 1, 3, 7, 15);
        for (int piece = 0; piece < 5; piece++) {
            int alike = 5 - piece;
            for (int bound = 1; bound <= 6; bound++) {
                script.given("bound(" + bound + ")").due("would(0, " + piece + ", NONE, 60, 0)", alike < bound ? 4 : 3);
            }
        }
        EDGES.house(HIDDEN).given("asker(0)").consent(0, "let;mask;").due("would(0, 0, NONE, 60, 0)", 4).given("person(1, 1, 1, 1)")
            .due("would(0, 0, NONE, 60, 0)", 3).given("bound(3)").due("would(0, 0, NONE, 60, 0)", 4).given("bound(1)").due("would(0, 0, NONE, 60, 0)", 3);
    }

    private static void boundOfTwelve() {
        String[] persons = new String[12];
        for (int i = 0; i < 12; i++) {
            persons[i] = i == 11 ? "3, 3, 3, 0" : "3, 3, 3, 3";
        }
        Script script = town(HIDDEN, persons, 7, 15).given("bound(12)");
        script.due("would(0, 0, NONE, 60, 0)", 3).due("would(0, 1, NONE, 60, 0)", 4).given("bound(11)").due("would(0, 1, NONE, 60, 0)", 3);
        script.due("could(0, 0)", 12).due("ask(0, 1, NONE, 60, 0)", 3).due("could(0, 0)", 11).given("bound(12)").due("would(0, 0, NONE, 60, 0)", 4);
    }

    private static void boundBeyondTheTown() {
        // All of the town are fewer than the bound, though nothing is told.
        Script script = town(HIDDEN, new String[] {"0, 0, 0, 0", "0, 0, 0, 0"}, 0);
        script.given("bound(3)").due("would(0, 0, NONE, 60, 0)", 4).given("person(3, 3, 3, 3)").due("would(0, 0, NONE, 60, 0)", 3);
        script = town(HIDDEN, new String[] {"0, 0, 0, 0"}, 15);
        script.due("would(0, 0, NONE, 60, 0)", 4).given("bound(1)").due("would(0, 0, NONE, 60, 0)", 3);
    }

    private static void traitsTogether() {
        String[] persons = {"0, 0, 0, 0", "0, 1, 1, 1", "1, 0, 1, 1", "1, 1, 0, 1", "1, 1, 1, 0"};
        for (int first = 0; first < 4; first++) {
            // Of each trait one other is alike, and of two together none.
            Script script = town(KNOWS, persons, 1, 2, 4, 8, 0);
            script.due("ask(0, " + first + ", NONE, 60, 0)", 3).due("could(0, 0)", 2);
            for (int next = 0; next < 4; next++) {
                script.due("would(0, " + next + ", NONE, 60, 0)", next == first ? 3 : 4).due("would(1, " + next + ", NONE, 60, 0)", 3);
            }
            script.due("ask(0, 4, NONE, 60, 0)", 3).given("bound(3)").due("would(0, 4, NONE, 60, 0)", 4).due("would(1, 4, NONE, 60, 0)", 3);
        }
    }

    private static void knowledgeOfEachAsker() {
        Script script = town(KNOWS, new String[] {"0, 0, 0, 0", "0, 0, 1, 1", "1, 0, 0, 0"}, 1, 8);
        script.given("piece(0, 10, 20, 0, 1, 8)", "piece(0, 20, 30, 0, 1, 2)");
        // What is told of another person does not count, with its name or masked.
        script.due("ask(0, 3, NONE, 60, 0)", 3).due("ask(0, 0, NONE, 60, 0)", 3).due("ask(0, 2, NONE, 60, 1)", 2);
        script.due("would(0, 1, NONE, 60, 0)", 4).due("would(1, 1, NONE, 60, 0)", 3).due("could(0, 1)", 1).due("could(1, 1)", 3).due("could(0, 0)", 2);
        // What was taken back since, or is kept now, was heard.
        script.given("takes(0, 0)").due("would(0, 1, NONE, 60, 0)", 4).consent(2, "keep if piece == 0; let; mask;").due("would(0, 1, NONE, 60, 0)", 4);
    }

    private static void namedThenMasked() {
        Script script = town(HIDDEN, new String[] {"0, 0, 0, 0", "1, 1, 1, 1"}, 15, 0, 1);
        script.due("ask(0, 0, NONE, 60, 0)", 4).due("ask(0, 1, NONE, 60, 0)", 3).due("ask(0, 0, NONE, 60, 0)", 4).due("ask(0, 1, NONE, 60, 1)", 2);
        script.due("ask(0, 0, NONE, 60, 0)", 3).due("heard(0, 0)", 3).due("could(0, 0)", 1).due("ask(1, 0, NONE, 60, 0)", 4).due("could(1, 0)", 2);
        script.given("bound(12)").due("ask(0, 2, NONE, 60, 0)", 3).due("ask(1, 2, NONE, 60, 0)", 4);
    }

    private static void heardForEver() {
        Script script = EDGES.house(FOR_EVER).given("asker(0)", "bound(1)", "piece(0, 10, 20, 0, 1, 1)").consent(0, "keep if use == 3; let; mask if use == 1;");
        script.due("ask(0, 0, NONE, 60, 1)", 3).due("ask(0, 0, NONE, 60, 1)", 3).due("heard(0, 0)", 3).refuses("ask(0, 0, NONE, 60, 3)", 1);
        script.due("heard(0, 0)", 3).due("could(0, 1)", 1).due("ask(0, 0, NONE, 60, 0)", 2).due("heard(0, 0)", 2);
        script.refuses("ask(0, 0, NONE, 60, 1)", 3).due("heard(0, 0)", 2).refuses("ask(0, 0, NONE, 60, 0)", 2).given("bound(12)");
        script.refuses("ask(0, 0, NONE, 60, 1)", 3).given("takes(0, 0)").refuses("ask(0, 0, NONE, 60, 0)", 0).due("heard(0, 0)", 2);
        script.consent(0, "keep;").due("heard(0, 0)", 2).due("heard(0, 1)", 0).due("seconds(0, 0)", 10);
    }

    private static void heardArguments() {
        EDGES.range(HEARD, EdgesOfAskingTests::lettingToAskers, "heard($, 0)", 0, 1, 0, NONE);
        EDGES.range(HEARD, EdgesOfAskingTests::lettingToAskers, "heard(0, $)", 0, 1, 0, NONE);
        EDGES.range(HEARD, s -> {
            thirtyPieces(s);
            s.given("bound(1)", "asker(0)", "asker(0)", "ask(0, 0, NONE, 60, 0)", "ask(0, 29, NONE, 60, 0)");
        }, "heard(0, $)", 0, 29, 3, NONE);
        // The last of one asker and the first of the next are not the same.
        Script script = EDGES.of(HEARD);
        thirtyPieces(script);
        script.given("bound(1)", "asker(0)", "asker(0)", "asker(0)", "ask(0, 29, NONE, 60, 0)", "ask(2, 0, NONE, 60, 0)");
        script.due("heard(1, 0)", 0).due("heard(1, 29)", 0).due("heard(0, 29)", 3).due("heard(2, 0)", 3).due("heard(0, 30)", NONE);
    }

    private static void couldArguments() {
        EDGES.range(COULD, EdgesOfAskingTests::lettingToAskers, "could($, 0)", 0, 1, 2, NONE);
        EDGES.range(COULD, EdgesOfAskingTests::lettingToAskers, "could(0, $)", 0, 1, 2, NONE);
    }

    private static void couldAnswers() {
        String[] persons = {"0, 1, 2, 3", "0, 1, 2, 0", "0, 1, 0, 3", "0, 0, 2, 3", "1, 1, 2, 3"};
        Script script = town(COULD, persons, 1, 2, 4, 8, 0).given("bound(1)").due("could(0, 0)", 5).due("ask(0, 4, NONE, 60, 0)", 3).due("could(0, 0)", 5);
        for (int piece = 0; piece < 4; piece++) {
            script.due("ask(0, " + piece + ", NONE, 60, 0)", 3).due("could(0, 0)", 4 - piece).due("could(1, 0)", 5).due("could(0, 1)", 5);
        }
        script.given("person(0, 1, 2, 3)").due("could(0, 0)", 2).due("could(1, 0)", 6).due("ask(0, 4, NONE, 60, 1)", 2).due("could(0, 0)", 1);
        // A trait is told alone: a piece tells as many as its bits say.
        for (int tells = 0; tells < 16; tells++) {
            town(COULD, persons, tells).given("bound(1)").due("ask(1, 0, NONE, 60, 0)", 3).due("could(1, 0)", 5 - Integer.bitCount(tells));
        }
    }

    private static void twoTopics(Script script) {
        letting(script);
        script.given("bound(1)", "topic(0)", "asker(0)", "asker(0)", "piece(0, 10, 20, 1, NONE, 0)", "ask(0, 1, NONE, 60, 0)", "ask(1, 1, NONE, 60, 0)");
    }

    private static void secondsArguments() {
        EDGES.range(SECONDS, EdgesOfAskingTests::twoTopics, "seconds($, 0)", 0, 1, 10, NONE);
        EDGES.range(SECONDS, EdgesOfAskingTests::twoTopics, "seconds(1, $)", -1, 1, 10, NONE);
        EDGES.range(SECONDS, Edges::smallHouse, "seconds(0, $)", -1, -1, 10, NONE);
        EDGES.range(SECONDS, s -> {
            s.given("person(0, 0, 0, 0)", "tape(0, 0, 100)");
            for (int i = 0; i < 12; i++) {
                s.given("topic(" + (i - 1) + ")");
            }
            s.given("piece(0, 10, 20, 11, NONE, 0)");
        }, "seconds($, NONE)", 0, 11, 10, NONE);
    }

    private static void secondsAnswers() {
        Script script = EDGES.house(SECONDS).given("bound(1)", "asker(0)", "tape(0, 0, 999)", "tape(0, 0, 1)", "topic(NONE)",
            "piece(1, 0, 999, 0, NONE, 0)", "piece(2, 0, 1, 0, NONE, 0)", "piece(0, 10, 11, 1, NONE, 0)").consent(0, "let; mask;");
        script.due("seconds(0, NONE)", 1010).due("seconds(1, NONE)", 1).due("seconds(0, 0)", 0).due("ask(0, 1, NONE, 60, 0)", 2).due("seconds(0, 0)", 999);
        script.due("ask(0, 0, NONE, 60, 0)", 3).due("ask(0, 0, NONE, 60, 0)", 3).due("seconds(0, 0)", 1009).due("seconds(1, 0)", 0);
        script.given("takes(1, 0)").due("seconds(0, 0)", 1009).due("seconds(0, NONE)", 1010);
        // All that six tapes can hold.
        script = EDGES.of(SECONDS).given("person(0, 0, 0, 0)", "topic(NONE)");
        for (int i = 0; i < 6; i++) {
            script.given("tape(0, 0, 999)", "piece(" + i + ", 0, 999, 0, NONE, 0)");
        }
        script.due("seconds(0, NONE)", 5994);
    }

    private static void opensArguments() {
        EDGES.range(OPENS, EdgesOfAskingTests::letting, "opens($, 60, 0, 0)", 0, 0, 60, NONE);
        EDGES.range(OPENS, EdgesOfAskingTests::thirtyPieces, "opens($, 60, 0, 0)", 0, 29, 60, NONE);
        EDGES.range(OPENS, EdgesOfAskingTests::letting, "opens(0, 60, $, 0)", 0, 3, 60, NONE);
        EDGES.range(OPENS, EdgesOfAskingTests::letting, "opens(0, 60, 0, $)", 0, 3, 60, NONE);
        Script script = EDGES.of(OPENS);
        letting(script);
        for (String day : new String[] {"-1", "10000", "MIN", "MAX"}) {
            script.refuses("opens(0, " + day + ", 0, 0)", NONE);
        }
        script.due("opens(0, 0, 0, 0)", 0).due("opens(0, 1, 0, 0)", 1).due("opens(0, 9999, 0, 0)", 9999);
    }

    private static void opensDays() {
        EDGES.house(OPENS).due("opens(0, 0, 0, 0)", NONE).consent(0, "").due("opens(0, 0, 0, 0)", NONE).consent(0, "mask; mask if age == 1;")
            .due("opens(0, 0, 0, 0)", NONE).consent(0, "keep; let;").due("opens(0, 0, 0, 0)", NONE).consent(0, "keep if age < 0; let;").due("opens(0, 0, 0, 0)", 50);
        EDGES.house(OPENS).consent(0, "let if age == 9949;").due("opens(0, 0, 0, 0)", 9999).due("opens(0, 9998, 0, 0)", 9999)
            .due("opens(0, 9999, 0, 0)", 9999).consent(0, "let if age == 9950;").due("opens(0, 0, 0, 0)", NONE).due("opens(0, 9999, 0, 0)", NONE);
        EDGES.house(OPENS).consent(0, "let if age == 0-50;").due("opens(0, 0, 0, 0)", 0).due("opens(0, 1, 0, 0)", NONE)
            .consent(0, "let if age == 0-51;").due("opens(0, 0, 0, 0)", NONE);
        EDGES.house(OPENS).consent(0, "let if age == 10 or age == 20 and use == 1; let if age == 30;").due("opens(0, 0, 0, 0)", 60).due("opens(0, 60, 0, 0)", 60)
            .due("opens(0, 61, 0, 0)", 80).due("opens(0, 61, 0, 1)", 70).due("opens(0, 71, 0, 1)", 80).due("opens(0, 80, 0, 0)", 80).due("opens(0, 81, 0, 0)", NONE);
        EDGES.house(OPENS).consent(0, "let if 0 <= dead;").due("opens(0, 0, 0, 0)", NONE).given("dies(0, 9999)").due("opens(0, 0, 0, 0)", 9999)
            .consent(0, "let if dead == 1;").due("opens(0, 0, 0, 0)", NONE);
        EDGES.house(OPENS).consent(0, "keep if dead == 0-1; let if 1 == 1;").due("opens(0, 0, 0, 0)", NONE).given("dies(0, 70)").due("opens(0, 0, 0, 0)", 70);
        // Whether it is taken back is no question of its consent.
        EDGES.house(OPENS).consent(0, "let if 20 <= age;").given("takes(0, 0)").due("opens(0, 0, 0, 0)", 70).due("opens(0, 71, 0, 0)", 71);
        // Age counts behind a keep that does not hang on the day.
        EDGES.house(OPENS).consent(0, "keep if kind == 1; mask if age < 5; let if use != 2 and age < 0 or kind == 2;").due("opens(0, 49, 0, 0)", 49)
            .due("opens(0, 50, 0, 0)", NONE).due("opens(0, 50, 2, 2)", 50).due("opens(0, 0, 1, 0)", NONE);
    }

    private static void atArguments() {
        EDGES.range(AT, Edges::smallHouse, "at($, 0)", 0, 0, 0, NONE);
        EDGES.range(AT, Edges::smallHouse, "at(0, $)", 0, 9, 0, NONE);
        EDGES.range(AT, s -> {
            Edges.smallHouse(s);
            s.given("tape(0, 0, 999)", "tape(0, 0, 999)", "piece(2, 0, 999, 0, NONE, 0)");
        }, "at(2, $)", 0, 998, 1, NONE);
    }

    private static void atSeconds() {
        Script script = EDGES.house(AT).given("tape(0, 0, 20)", "tape(0, 0, 9)", "piece(1, 5, 6, 0, NONE, 0)", "piece(1, 6, 20, 0, NONE, 0)", "piece(0, 99, 100, 0, NONE, 0)");
        script.due("at(1, 4)", NONE).due("at(1, 5)", 1).due("at(1, 6)", 2).due("at(1, 19)", 2).due("at(1, 20)", NONE).due("at(2, 5)", NONE);
        script.due("at(0, 5)", 0).due("at(0, 98)", NONE).due("at(0, 99)", 3).due("at(0, 100)", NONE).due("at(3, 5)", NONE).due("at(NONE, 5)", NONE);
        script.given("takes(0, 0)").due("at(0, 5)", 0);
    }
}
