/** The edges of what the house is told: 'Terms' I, and promises 1, 6 to 14 and 29. */
public final class EdgesOfThingsTests {
    private static final int NONE = TapeHouse.NONE;
    private static final Edges EDGES = new Edges();
    private static final String PERSON = "A PERSON: its number. NONE, and nothing happens: 12 are there, no such TRAITS.";
    private static final String TOPIC =
        "A TOPIC under another one (NONE: none): its number. NONE, and nothing happens: 12 are there, no such one.";
    private static final String TAPE =
        "A TAPE: its number. NONE, and nothing happens: 6 are there, no such SPEAKER, DAY, LENGTH.";
    private static final String PIECE = "A PIECE (names NONE: nobody; tells 0 then): its number. NONE, and nothing happens: "
        + "30 are there, no such TAPE, seconds (from below to, within the TAPE), it overlaps one, no such TOPIC, PERSON, "
        + "TRAITS (0 .. 15).";
    private static final String ASKER = "An ASKER: its number. NONE, and nothing happens: 6 are there, no such KIND.";
    private static final String COPY = "A COPY: its number. NONE, and nothing happens: 4 are there, no such LAG.";
    private static final String BOUND = "THE BOUND becomes k: true; false for others.";
    private static final String DIES = "A PERSON dies on a DAY (0 .. 9999): true; false: no such ones, it is told already.";
    private static final String TAKES = "A PIECE is TAKEN BACK from a DAY on: true; false: no such ones, it is already.";
    private static final String COUNT = "0 PERSONS, 1 TOPICS, 2 TAPES, 3 PIECES, 4 ASKERS, 5 COPIES, 6 TELLINGS, "
        + "7 bytes of the text, 8 THE BOUND. NONE for others.";

    public static void main(String[] args) {
        nothingIsThere();
        housesAreApart();
        lastCalls();
        traits();
        twelvePersons();
        topicsUnder();
        twelveTopics();
        topicsIn();
        tapeArguments();
        sixTapes();
        pieceArguments();
        pieceSeconds();
        pieceNames();
        piecesDoNotOverlap();
        aRefusedPieceHoldsNoSeconds();
        thirtyPieces();
        askers();
        copies();
        bound();
        deathDays();
        deathOnce();
        takingDays();
        takingOnce();
        counts();
        countsApart();
        EDGES.end();
    }

    private static void nothingIsThere() {
        Script script = EDGES.of("Nothing is there.");
        for (int what = 0; what < 8; what++) {
            script.due("count(" + what + ")", 0);
        }
        script.due("count(8)", 2);
        String[] none = {"place()", "back(1)", "read(0)", "topic(0)", "tape(0, 0, 1)", "piece(0, 0, 1, 0, NONE, 0)",
            "let(0, 0, 0, 0)", "mask(0, 0, 0, 0)", "would(0, 0, NONE, 0, 0)", "ask(0, 0, NONE, 0, 0)", "heard(0, 0)",
            "could(0, 0)", "seconds(0, NONE)", "opens(0, 0, 0, 0)", "at(0, 0)", "left(1)", "when(0, 1, 0)"};
        for (String call : none) {
            script.refuses(call, NONE);
        }
        script.refuses("dies(0, 0)", 0).refuses("takes(0, 0)", 0);
        script.due("back(0)", 0).due("left(0)", 0).due("when(0, 0, 0)", 0).due("when(9, 0, 1)", 9999);
        script.due("person(0, 0, 0, 0)", 0).due("topic(NONE)", 0).due("asker(0)", 0).due("copy(0)", 0).due("same(0, 1)", 0);
    }

    /** What one house is told, another one does not know. */
    private static void housesAreApart() {
        Script first = EDGES.house("Nothing is there.").given("asker(1)", "copy(3)", "same(0, 1)", "bound(7)");
        first.text("let").due("read(1)", 1).text("keep");
        Script second = EDGES.of("Nothing is there.");
        for (int what = 0; what < 8; what++) {
            second.due("count(" + what + ")", 0);
        }
        second.due("count(8)", 2).due("place()", NONE).due("left(1)", NONE);
        first.due("count(0)", 2).due("count(7)", 4).due("count(8)", 7).due("place()", 3);
    }

    private static void lastCalls() {
        Script script = EDGES.house("An object is used for at most 512 calls after it has been made").given("asker(0)");
        script.consent(0, "let;");
        while (script.size() < Script.MOST_CALLS - 4) {
            script.due("count(3)", 1);
        }
        script.due("person(3, 3, 3, 3)", 2).due("feed(1, 2, 3, 4, 5)", 20).due("ask(0, 0, NONE, 60, 0)", 2).due("heard(0, 0)", 2);
    }

    private static void traits() {
        String sentence = "four TRAITS of 0 .. 3 each";
        EDGES.range(sentence, Edges::nothing, "person($, 0, 0, 0)", 0, 3, 0, NONE);
        EDGES.range(sentence, Edges::nothing, "person(3, $, 0, 0)", 0, 3, 0, NONE);
        EDGES.range(sentence, Edges::nothing, "person(0, 0, $, 3)", 0, 3, 0, NONE);
        EDGES.range(sentence, Edges::nothing, "person(0, 3, 0, $)", 0, 3, 0, NONE);
        EDGES.range(sentence, Edges::smallHouse, "person(0, $, $, 0)", 0, 3, 2, NONE);
    }

    private static void twelvePersons() {
        Script script = EDGES.of("PERSONS of a town, 12 at most, numbered from 0 on");
        for (int i = 0; i < 12; i++) {
            script.due("read(" + i + ")", NONE).due("person(0, 0, 0, 0)", i).due("count(0)", i + 1).due("read(" + i + ")", 0);
        }
        script.refuses("person(0, 0, 0, 0)", NONE).due("count(0)", 12).due("read(12)", NONE);
        script = EDGES.of(PERSON);
        for (int i = 0; i < 12; i++) {
            script.due("person(3, 2, 1, " + i % 4 + ")", i);
        }
        script.refuses("person(3, 2, 1, 0)", NONE).refuses("person(4, 2, 1, 0)", NONE).due("count(0)", 12);
    }

    private static void topicsUnder() {
        String sentence = "each under another one (of a lesser number), or under none";
        EDGES.range(sentence, Edges::nothing, "topic($)", -1, -1, 0, NONE);
        EDGES.range(sentence, s -> s.given("topic(NONE)"), "topic($)", -1, 0, 1, NONE);
        EDGES.range(sentence, s -> s.given("topic(NONE)", "topic(0)", "topic(0)"), "topic($)", -1, 2, 3, NONE);
    }

    private static void twelveTopics() {
        Script script = EDGES.of("TOPICS, 12 at most, numbered from 0 on");
        for (int i = 0; i < 12; i++) {
            script.due("seconds(" + i + ", NONE)", NONE).due("topic(" + (i - 1) + ")", i).due("seconds(" + i + ", NONE)", 0);
        }
        script.refuses("topic(NONE)", NONE).refuses("topic(0)", NONE).refuses("topic(11)", NONE).refuses("topic(12)", NONE);
        script.due("count(1)", 12).due("seconds(12, NONE)", NONE);
        script = EDGES.of(TOPIC);
        for (int i = 0; i < 11; i++) {
            script.due("topic(NONE)", i);
        }
        script.refuses("topic(11)", NONE).due("topic(10)", 11).refuses("topic(NONE)", NONE);
    }

    private static void topicsIn() {
        Script script = EDGES.of("a TOPIC is IN itself, and in all that it is under, and so on").given("person(0, 0, 0, 0)", "tape(0, 0, 9)");
        // A chain of six, and beside it one of six under the chain's first.
        for (int i = 0; i < 12; i++) {
            script.given("topic(" + (i == 6 ? 0 : i - 1) + ")");
        }
        script.given("piece(0, 0, 1, 5, NONE, 0)", "piece(0, 1, 3, 11, NONE, 0)", "piece(0, 3, 7, 0, NONE, 0)");
        script.due("seconds(0, NONE)", 7);
        for (int topic = 1; topic < 6; topic++) {
            script.due("seconds(" + topic + ", NONE)", 1).due("seconds(" + (topic + 6) + ", NONE)", 2);
        }
        script.due("seconds(6, NONE)", 2);
        script.consent(0, "keep if in 1; let if in 6; let if in 0;");
        script.due("let(0, 0, 0, 0)", -2).due("let(1, 0, 0, 0)", 1).due("let(2, 0, 0, 0)", 2);
    }

    private static void tapeArguments() {
        EDGES.range("the SPEAKER, a PERSON", Edges::smallHouse, "tape($, 5, 5)", 0, 1, 1, NONE);
        EDGES.range("the DAY on which it was made (0 .. 9999)", Edges::smallHouse, "tape(0, $, 5)", 0, 9999, 1, NONE);
        EDGES.range("a LENGTH in seconds (1 .. 999)", Edges::smallHouse, "tape(0, 5, $)", 1, 999, 1, NONE);
        EDGES.house("a LENGTH in seconds (1 .. 999)").given("tape(0, 0, 1)", "tape(0, 0, 999)")
            .refuses("piece(1, 0, 2, 0, NONE, 0)", NONE).due("piece(1, 0, 1, 0, NONE, 0)", 1)
            .refuses("piece(2, 0, 1000, 0, NONE, 0)", NONE).due("piece(2, 0, 999, 0, NONE, 0)", 2).due("seconds(0, NONE)", 1010);
    }

    private static void sixTapes() {
        Script script = EDGES.of("TAPES, 6 at most").given("person(0, 0, 0, 0)", "topic(NONE)");
        for (int i = 0; i < 6; i++) {
            script.due("piece(" + i + ", 0, 1, 0, NONE, 0)", NONE).due("tape(0, 0, 1)", i).due("count(2)", i + 1)
                .due("piece(" + i + ", 0, 1, 0, NONE, 0)", i);
        }
        script.refuses("tape(0, 0, 1)", NONE).due("count(2)", 6);
        script = EDGES.of(TAPE).refuses("tape(0, 0, 1)", NONE).given("person(0, 0, 0, 0)");
        for (int i = 0; i < 6; i++) {
            script.refuses("tape(1, 9999, 999)", NONE).due("tape(0, 9999, 999)", i);
        }
        script.refuses("tape(0, 9999, 999)", NONE);
    }

    private static void pieceArguments() {
        EDGES.range(PIECE, Edges::smallHouse, "piece($, 20, 30, 0, 0, 3)", 0, 0, 1, NONE);
        EDGES.range(PIECE, s -> tapes(s, 6), "piece($, 20, 30, 0, 0, 3)", 0, 5, 1, NONE);
        EDGES.range(PIECE, Edges::smallHouse, "piece(0, 20, 30, $, 0, 3)", 0, 0, 1, NONE);
        EDGES.range(PIECE, s -> topics(s, 12), "piece(0, 20, 30, $, 0, 3)", 0, 11, 1, NONE);
        EDGES.of(PIECE).given("person(0, 0, 0, 0)", "tape(0, 0, 9)").refuses("piece(0, 0, 1, 0, NONE, 0)", NONE)
            .refuses("piece(0, 0, 1, NONE, NONE, 0)", NONE);
    }

    private static void tapes(Script script, int n) {
        Edges.smallHouse(script);
        for (int i = 1; i < n; i++) {
            script.given("tape(0, 0, 100)");
        }
    }

    private static void topics(Script script, int n) {
        Edges.smallHouse(script);
        for (int i = 1; i < n; i++) {
            script.given("topic(0)");
        }
    }

    private static void persons(Script script, int n) {
        Edges.smallHouse(script);
        for (int i = 2; i < n; i++) {
            script.given("person(1, 1, 1, 1)");
        }
    }

    private static void freeTape(Script script) {
        script.given("person(0, 0, 0, 0)", "topic(NONE)", "tape(0, 0, 100)");
    }

    private static void pieceSeconds() {
        String sentence = "of a TAPE the seconds from .. to (not with)";
        EDGES.range(sentence, EdgesOfThingsTests::freeTape, "piece(0, $, 50, 0, NONE, 0)", 0, 49, 0, NONE);
        EDGES.range(sentence, EdgesOfThingsTests::freeTape, "piece(0, 50, $, 0, NONE, 0)", 51, 100, 0, NONE);
        EDGES.of(sentence).given("person(0, 0, 0, 0)", "topic(NONE)", "tape(0, 0, 100)", "tape(0, 0, 1)", "tape(0, 0, 999)")
            .refuses("piece(0, 0, 0, 0, NONE, 0)", NONE).refuses("piece(0, 100, 100, 0, NONE, 0)", NONE)
            .refuses("piece(0, 99, 101, 0, NONE, 0)", NONE).refuses("piece(0, 100, 101, 0, NONE, 0)", NONE)
            .refuses("piece(0, -1, 0, 0, NONE, 0)", NONE).refuses("piece(0, -1, 1, 0, NONE, 0)", NONE)
            .refuses("piece(0, 1, 0, 0, NONE, 0)", NONE).refuses("piece(0, MAX, MIN, 0, NONE, 0)", NONE)
            .refuses("piece(0, MIN, MAX, 0, NONE, 0)", NONE).refuses("piece(1, 0, 2, 0, NONE, 0)", NONE)
            .due("piece(0, 0, 100, 0, NONE, 0)", 0).due("piece(1, 0, 1, 0, NONE, 0)", 1).due("piece(2, 998, 999, 0, NONE, 0)", 2)
            .due("at(0, 0)", 0).due("at(0, 99)", 0).due("at(0, 100)", NONE).due("at(1, 0)", 1).due("at(1, 1)", NONE)
            .due("at(2, 997)", NONE).due("at(2, 998)", 2).due("at(2, 999)", NONE).due("seconds(0, NONE)", 102);
    }

    private static void pieceNames() {
        String sentence = "it NAMES one PERSON, or none, and TELLS of that one some TRAITS (as bits)";
        EDGES.range(sentence, Edges::smallHouse, "piece(0, 20, 30, 0, $, 0)", -1, 1, 1, NONE);
        EDGES.range(sentence, Edges::smallHouse, "piece(0, 20, 30, 0, $, 1)", 0, 1, 1, NONE);
        EDGES.range(sentence, s -> persons(s, 12), "piece(0, 20, 30, 0, $, 15)", 0, 11, 1, NONE);
        EDGES.range(sentence, Edges::smallHouse, "piece(0, 20, 30, 0, 1, $)", 0, 15, 1, NONE);
        EDGES.range("names NONE: nobody; tells 0 then", Edges::smallHouse, "piece(0, 20, 30, 0, NONE, $)", 0, 0, 1, NONE);
        EDGES.house("names NONE: nobody; tells 0 then").refuses("piece(0, 20, 30, 0, NONE, 15)", NONE)
            .refuses("piece(0, 20, 30, 0, NONE, 16)", NONE).due("piece(0, 20, 30, 0, NONE, 0)", 1);
    }

    private static void piecesDoNotOverlap() {
        Script script = EDGES.of("PIECES of one TAPE do not overlap.");
        freeTape(script);
        script.given("tape(0, 0, 100)", "piece(0, 20, 30, 0, NONE, 0)");
        String[] seconds = {"20, 30", "19, 21", "29, 31", "20, 21", "29, 30", "24, 25", "19, 31", "0, 100", "20, 31", "19, 30", "0, 21", "29, 100"};
        for (String some : seconds) {
            script.refuses("piece(0, " + some + ", 0, NONE, 0)", NONE);
        }
        script.due("piece(1, 20, 30, 0, NONE, 0)", 1).due("piece(0, 19, 20, 0, NONE, 0)", 2).due("piece(0, 30, 31, 0, NONE, 0)", 3);
        script.refuses("piece(0, 18, 20, 0, NONE, 0)", NONE).refuses("piece(0, 30, 32, 0, NONE, 0)", NONE);
        script.due("piece(0, 0, 19, 0, NONE, 0)", 4).due("piece(0, 31, 100, 0, NONE, 0)", 5);
        script.due("at(0, 18)", 4).due("at(0, 19)", 2).due("at(0, 20)", 0).due("at(0, 29)", 0).due("at(0, 30)", 3).due("at(0, 31)", 5);
        for (int second = 0; second < 100; second += 9) {
            script.due("piece(0, " + second + ", " + (second + 1) + ", 0, NONE, 0)", NONE);
        }
    }

    private static void aRefusedPieceHoldsNoSeconds() {
        EDGES.house(PIECE).refuses("piece(0, 20, 30, 1, NONE, 0)", NONE).refuses("piece(0, 20, 30, 0, 2, 0)", NONE)
            .refuses("piece(0, 20, 30, 0, 1, 16)", NONE).refuses("piece(0, 20, 30, 0, NONE, 1)", NONE).due("at(0, 20)", NONE)
            .due("piece(0, 20, 30, 0, 1, 0)", 1).due("at(0, 20)", 1);
    }

    private static void thirtyPieces() {
        Script script = EDGES.of("PIECES, 30 at most, numbered from 0 on").given("person(0, 0, 0, 0)", "topic(NONE)", "tape(0, 0, 60)");
        script.consent(0, "let;");
        for (int i = 0; i < 30; i++) {
            script.due("let(" + i + ", 0, 0, 0)", NONE).due("piece(0, " + i + ", " + (i + 1) + ", 0, NONE, 0)", i)
                .due("let(" + i + ", 0, 0, 0)", 0).due("count(3)", i + 1);
        }
        script.refuses("piece(0, 30, 31, 0, NONE, 0)", NONE).refuses("piece(0, 29, 30, 0, NONE, 0)", NONE);
        script.due("count(3)", 30).due("at(0, 29)", 29).due("at(0, 30)", NONE).due("let(30, 0, 0, 0)", NONE).due("takes(29, 0)", 1);
    }

    private static void askers() {
        EDGES.range("a KIND (0 .. 3)", Edges::nothing, "asker($)", 0, 3, 0, NONE);
        Script script = EDGES.house("ASKERS, 6 at most");
        for (int i = 0; i < 6; i++) {
            script.due("heard(" + i + ", 0)", NONE).due("asker(" + i % 4 + ")", i).due("heard(" + i + ", 0)", 0).due("count(4)", i + 1);
        }
        script.refuses("asker(0)", NONE).refuses("asker(3)", NONE).due("count(4)", 6).due("heard(6, 0)", NONE);
        script = EDGES.house(ASKER).consent(0, "let if kind == 0; let if kind == 1; let if kind == 2; keep if kind == 3;");
        script.refuses("asker(4)", NONE).given("asker(3)", "asker(2)", "asker(1)", "asker(0)").refuses("asker(-1)", NONE);
        script.given("asker(3)", "asker(2)").refuses("asker(1)", NONE);
        script.due("would(0, 0, NONE, 0, 0)", 1).due("would(3, 0, NONE, 0, 0)", 2).due("would(4, 0, NONE, 0, 0)", 1)
            .due("would(5, 0, NONE, 0, 0)", 2);
    }

    private static void copies() {
        EDGES.range("each LAGS some days (0 .. 400)", Edges::nothing, "copy($)", 0, 400, 0, NONE);
        Script script = EDGES.house("COPIES, 4 at most, numbered from 0 on").given("asker(0)").consent(0, "let;");
        for (int i = 0; i < 4; i++) {
            script.due("would(0, 0, " + i + ", 60, 0)", NONE).due("copy(" + 10 * i + ")", i).due("would(0, 0, " + i + ", 60, 0)", 2)
                .due("count(5)", i + 1);
        }
        script.refuses("copy(0)", NONE).refuses("copy(400)", NONE).due("count(5)", 4).due("would(0, 0, 4, 60, 0)", NONE);
        script.given("takes(0, 60)");
        for (int i = 0; i < 4; i++) {
            script.due("would(0, 0, " + i + ", " + (60 + 10 * i) + ", 0)", 0);
        }
        for (int i = 1; i < 4; i++) {
            script.due("would(0, 0, " + i + ", " + (59 + 10 * i) + ", 0)", 2);
        }
        EDGES.of(COPY).due("copy(400)", 0).refuses("copy(401)", NONE).refuses("copy(-1)", NONE).due("copy(0)", 1)
            .due("copy(0)", 2).due("copy(0)", 3).refuses("copy(0)", NONE).refuses("copy(401)", NONE);
    }

    private static void bound() {
        EDGES.range("THE BOUND (1 .. 12; 2 at first)", Edges::nothing, "bound($)", 1, 12, 1, 0);
        EDGES.of("THE BOUND (1 .. 12; 2 at first)").due("count(8)", 2).refuses("bound(0)", 0).refuses("bound(13)", 0).due("count(8)", 2);
        Script script = EDGES.of(BOUND);
        for (int k = 12; k >= 1; k--) {
            script.due("bound(" + k + ")", 1).due("count(8)", k).due("bound(0)", 0).due("bound(13)", 0).due("bound(-" + k + ")", 0)
                .due("count(8)", k);
        }
        script.due("bound(1)", 1).due("count(8)", 1).due("bound(12)", 1).refuses("bound(13)", 0).due("count(8)", 12);
    }

    private static void deathDays() {
        EDGES.range(DIES, Edges::smallHouse, "dies(0, $)", 0, 9999, 1, 0);
        EDGES.range(DIES, Edges::smallHouse, "dies($, 70)", 0, 1, 1, 0);
        EDGES.range(DIES, s -> persons(s, 12), "dies($, 70)", 0, 11, 1, 0);
        EDGES.house(DIES).consent(0, "let if dead == 0; let if dead == 9999;").given("dies(0, 0)")
            .due("let(0, 0, 0, 0)", 0).due("let(0, 1, 0, 0)", -3).due("let(0, 9998, 0, 0)", -3).due("let(0, 9999, 0, 0)", 1);
        EDGES.house(DIES).consent(0, "let if dead == 0; let if dead == 0-1;").given("dies(0, 9999)")
            .due("let(0, 9998, 0, 0)", 1).due("let(0, 9999, 0, 0)", 0);
    }

    private static void deathOnce() {
        Script script = EDGES.house("DEATH of a PERSON on a DAY (once).").consent(0, "let if dead == 0;").consent(1, "let if dead == 0;");
        script.given("tape(1, 0, 9)", "piece(1, 0, 1, 0, NONE, 0)");
        script.refuses("dies(0, -1)", 0).refuses("dies(0, 10000)", 0).due("dies(0, 70)", 1);
        script.refuses("dies(0, 70)", 0).refuses("dies(0, 60)", 0).refuses("dies(0, 80)", 0).refuses("dies(0, 0)", 0);
        script.due("opens(0, 0, 0, 0)", 70).due("opens(0, 71, 0, 0)", NONE).due("opens(1, 0, 0, 0)", NONE);
        script.due("dies(1, 0)", 1).refuses("dies(1, 5)", 0).due("opens(1, 0, 0, 0)", 0).due("opens(0, 0, 0, 0)", 70);
    }

    private static void takingDays() {
        EDGES.range(TAKES, Edges::smallHouse, "takes(0, $)", 0, 9999, 1, 0);
        EDGES.range(TAKES, Edges::smallHouse, "takes($, 70)", 0, 0, 1, 0);
        EDGES.range(TAKES, s -> s.given("person(0, 0, 0, 0)", "topic(NONE)", "tape(0, 0, 9)", "piece(0, 0, 1, 0, NONE, 0)",
            "piece(0, 1, 2, 0, NONE, 0)", "piece(0, 2, 3, 0, NONE, 0)"), "takes($, 70)", 0, 2, 1, 0);
    }

    private static void takingOnce() {
        Script script = EDGES.house("TAKING BACK of a PIECE from a DAY on (once).").given("asker(0)", "piece(0, 10, 20, 0, NONE, 0)");
        script.consent(0, "let;").refuses("takes(0, -1)", 0).refuses("takes(0, 10000)", 0).due("takes(0, 70)", 1);
        script.refuses("takes(0, 70)", 0).refuses("takes(0, 60)", 0).refuses("takes(0, 80)", 0).refuses("takes(0, 0)", 0);
        script.due("would(0, 0, NONE, 69, 0)", 2).due("would(0, 0, NONE, 70, 0)", 0).due("would(0, 1, NONE, 9999, 0)", 2);
        script.due("takes(1, 0)", 1).refuses("takes(1, 5)", 0).due("would(0, 1, NONE, 0, 0)", 0);
    }

    private static void counts() {
        EDGES.of(COUNT).refuses("count(-1)", NONE).due("count(0)", 0).due("count(7)", 0).due("count(8)", 2).refuses("count(9)", NONE)
            .refuses("count(MIN)", NONE).refuses("count(MAX)", NONE);
    }

    private static void countsApart() {
        String[] calls = {"person(0, 0, 0, 0)", "topic(NONE)", "tape(0, 0, 1)", "piece(0, 0, 1, 0, NONE, 0)", "asker(0)", "copy(0)",
            "same(0, 1)", "feed(0, 0, 0, 0, 0)"};
        Script script = EDGES.of(COUNT);
        for (int made = 0; made < calls.length; made++) {
            script.given(calls[made]);
            for (int what = 0; what < calls.length; what++) {
                script.due("count(" + what + ")", what > made ? 0 : what == 7 ? 20 : 1);
            }
        }
        script.due("bound(5)", 1).due("count(8)", 5).refuses("count(-1)", NONE).refuses("count(9)", NONE);
    }
}
