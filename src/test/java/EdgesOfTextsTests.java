import java.util.Arrays;
import java.util.List;

/** The edges of consents as texts: 'Terms' II but for what the rules say, and promises 2 to 5. */
public final class EdgesOfTextsTests {
    private static final int NONE = TapeHouse.NONE;
    private static final int SYNTAX = 1;
    private static final int ROOM = 2;
    private static final int NAME = 4;
    private static final Edges EDGES = new Edges();
    private static final String FEED = "Twenty bytes, the highest of a first, come behind the tape of bytes: how many it has. "
        + "NONE, and nothing comes, if it would have more than 2,000.";
    private static final String BACK =
        "Its last n bytes go: how many it has. NONE, and nothing goes, if it has not so many, or n is below 0.";
    private static final String READ = "These bytes, which go, are a PERSON's CONSENT: 0, or the number of its FAULT. "
        + "NONE: no such PERSON (the bytes stay).";
    private static final String PLACE = "The byte of the latest read()'s FAULT (that was not NONE); NONE without.";
    private static final String BLANKS = "with blanks (9, 10, 13, 32) between or not";
    private static final String SIGNS = "SIGNS ; + - * == != < <= ( ) . A longer one, all else, is no TOKEN.";
    private static final String SYNTAX_FAULT = "1 SYNTAX: a TOKEN, or what is none, with which no text goes on.";
    private static final String TOKEN_ROOM = "2 ROOM: a 401st TOKEN;";
    private static final String RULE_ROOM = "a 17th RULE (at its first TOKEN)";
    private static final String DEPTH_ROOM = "a 7th ( within one another (at it)";
    private static final String ORDER =
        "FAULTS, the first by its place (a byte; the text's end: its length), of one place the least";
    private static final String NAME_FAULT = "If there is none, likewise: 4 NAME: at in's INT: no TOPIC that is there.";

    public static void main(String[] args) {
        feedOrder();
        feedSigns();
        feedFull();
        backEdges();
        backThenFeed();
        readPersons();
        readBytesGo();
        readOfAnyPerson();
        placeOfLatest();
        textOfNoRules();
        textOfMostBytes();
        blanks();
        bytesBehindAWord();
        words();
        ints();
        signs();
        longestThatCanBe();
        longerOnes();
        eachVar();
        eachTokenInEachState();
        endInEachState();
        tokenRoom();
        ruleRoom();
        depthRoom();
        allRoomAtOnce();
        order();
        nameTopics();
        nameLast();
        nameThen();
        faultChangesNothing();
        inPlaceOfTheOneAhead();
        nothingOfTextsAhead();
        manyLongTexts();
        EDGES.end();
    }

    private static String times(String part, int n) {
        return part.repeat(n);
    }

    /** A text read in the small house, which has one topic. */
    private static void reads(String sentence, String text, int fault, int place) {
        EDGES.house(sentence).reads(0, text, fault, place).due("count(7)", 0);
    }

    private static void feedOrder() {
        for (int at = 0; at < 20; at++) {
            int[] ints = new int[5];
            Arrays.fill(ints, 0x20202020);
            ints[at / 4] ^= (0x20 ^ ';') << 24 - 8 * (at % 4);
            Script script = EDGES.house(FEED);
            script.due("feed(" + ints[0] + ", " + ints[1] + ", " + ints[2] + ", " + ints[3] + ", " + ints[4] + ")", 20);
            script.due("read(0)", SYNTAX).due("place()", at);
        }
        EDGES.house(FEED).text(times(" ", 20)).text("let;" + times(" ", 15) + "?").due("count(7)", 40).due("read(0)", SYNTAX).due("place()", 39);
    }

    private static void feedSigns() {
        // A byte's highest bit is a bit as others are: these are bytes 128 and 255, not blanks or letters.
        EDGES.house(FEED).due("feed(MIN, 0, 0, 0, 0)", 20).due("read(0)", SYNTAX).due("place()", 0);
        EDGES.house(FEED).due("feed(538976511, 0, 0, 0, 0)", 20).due("read(0)", SYNTAX).due("place()", 3);
        EDGES.house(FEED).due("feed(MAX, MIN, -1, 0, 1)", 20).due("count(7)", 20);
    }

    private static void feedFull() {
        String feed = "feed(538976288, 538976288, 538976288, 538976288, 538976288)";
        Script script = EDGES.house(FEED);
        for (int i = 1; i <= 100; i++) {
            script.due(feed, 20 * i);
        }
        script.refuses(feed, NONE).refuses("feed(1, 2, 3, 4, 5)", NONE).due("count(7)", 2000);
        script.due("back(1)", 1999).refuses(feed, NONE).due("back(18)", 1981).refuses(feed, NONE).due("back(1)", 1980);
        script.due(feed, 2000).refuses(feed, NONE).due("read(0)", 0).due(feed, 20);
    }

    private static void backEdges() {
        EDGES.range(BACK, Edges::smallHouse, "back($)", 0, 0, 0, NONE);
        Script script = EDGES.house(BACK).text("let;").refuses("back(5)", NONE).refuses("back(-1)", NONE)
            .refuses("back(MAX)", NONE).refuses("back(MIN)", NONE).due("back(0)", 4).due("count(7)", 4).due("back(4)", 0);
        script.refuses("back(1)", NONE).due("back(0)", 0).due("read(0)", 0);
        script = EDGES.house(BACK);
        for (int i = 1; i <= 100; i++) {
            script.given("feed(1, 2, 3, 4, 5)");
        }
        script.refuses("back(2001)", NONE).refuses("back(-2000)", NONE).due("back(2000)", 0);
    }

    private static void backThenFeed() {
        // The last ones go, and what comes then stands where they stood.
        EDGES.house(BACK).text("let; keep").due("back(4)", 5).text("mask;").due("count(7)", 10).due("read(0)", 0)
            .due("let(0, 60, 0, 0)", 0).due("mask(0, 60, 0, 0)", 1);
        EDGES.house(BACK).text("keep;let;").due("back(5)", 4).due("back(1)", 3).due("read(0)", SYNTAX).due("place()", 0);
        EDGES.house(BACK).text("let;?").due("back(1)", 4).due("read(0)", 0).due("let(0, 60, 0, 0)", 0);
    }

    private static void readPersons() {
        EDGES.range(READ, s -> {
            Edges.smallHouse(s);
            s.text("let;");
        }, "read($)", 0, 1, 0, NONE);
        EDGES.range(READ, s -> {
            for (int i = 0; i < 12; i++) {
                s.given("person(0, 0, 0, 0)");
            }
            s.text("let; keep");
        }, "read($)", 0, 11, SYNTAX, NONE);
        EDGES.of(READ).text("let;").refuses("read(0)", NONE).refuses("read(-1)", NONE).due("count(7)", 4)
            .given("person(0, 0, 0, 0)").due("read(0)", 0).due("count(7)", 0);
    }

    private static void readBytesGo() {
        EDGES.house(READ).text("let;").due("read(0)", 0).due("count(7)", 0).due("back(1)", NONE);
        EDGES.house(READ).text("let").due("read(0)", SYNTAX).due("count(7)", 0).due("back(1)", NONE).due("read(0)", 0);
        EDGES.house(READ).text(times("let;", 17)).due("read(0)", ROOM).due("count(7)", 0).due("back(1)", NONE).due("read(0)", 0);
        EDGES.house(READ).text("let if in 1;").due("read(0)", NAME).due("count(7)", 0).due("back(1)", NONE).due("read(0)", 0);
        EDGES.house(READ).text("keep").due("read(0)", SYNTAX).text("let;").due("count(7)", 4).due("read(0)", 0).due("let(0, 60, 0, 0)", 0);
        EDGES.house(READ).due("count(7)", 0).due("read(0)", 0).due("let(0, 60, 0, 0)", -3);
    }

    private static void readOfAnyPerson() {
        // A person's consent stands before it speaks on a tape.
        EDGES.of(READ).given("person(0, 0, 0, 0)", "person(0, 0, 0, 0)").consent(1, "let;").given("topic(NONE)", "tape(1, 0, 9)",
            "tape(0, 0, 9)", "piece(0, 0, 1, 0, NONE, 0)", "piece(1, 0, 1, 0, NONE, 0)").due("let(0, 0, 0, 0)", 0).due("let(1, 0, 0, 0)", -3);
    }

    private static void placeOfLatest() {
        Script script = EDGES.of(PLACE).due("place()", NONE).due("read(0)", NONE).due("place()", NONE);
        Edges.smallHouse(script);
        script.due("place()", NONE).reads(0, "", 0, NONE).reads(0, ";", SYNTAX, 0).due("place()", 0);
        script.text("let; ?").due("place()", 0).refuses("read(2)", NONE).due("place()", 0).due("back(0)", 6).due("place()", 0);
        script.due("read(1)", SYNTAX).due("place()", 5).refuses("read(-1)", NONE).due("place()", 5);
        script.reads(0, "let if in 7;", NAME, 10).reads(1, times("let;", 16) + " let;", ROOM, 65).refuses("read(MAX)", NONE);
        script.due("place()", 65).due("read(1)", 0).due("place()", NONE).refuses("read(2)", NONE).due("place()", NONE);
    }

    private static void textOfNoRules() {
        EDGES.house("text: {RULE}.").due("read(0)", 0).due("place()", NONE).due("let(0, 60, 0, 0)", -3).due("mask(0, 60, 0, 0)", NONE)
            .consent(0, "let;mask;").due("let(0, 60, 0, 0)", 0).reads(0, "", 0, NONE).due("let(0, 60, 0, 0)", -3).due("mask(0, 60, 0, 0)", NONE)
            .reads(0, " ", 0, NONE).reads(0, "\t\n\r ", 0, NONE).reads(0, " ".repeat(2000), 0, NONE).reads(0, " ;", SYNTAX, 1);
    }

    private static void textOfMostBytes() {
        String sentence = "CONSENTS are texts of at most 2,000 bytes, one of each SPEAKER.";
        reads(sentence, "let;" + times(" ", 1995) + ";", SYNTAX, 1999);
        reads(sentence, times(" ", 1996) + "let;", 0, NONE);
        reads(sentence, times(" ", 1996) + "keep", SYNTAX, 2000);
        reads(sentence, "let" + times("\n", 1997), SYNTAX, 2000);
        reads(sentence, "keep" + times(" ", 1995) + ";", 0, NONE);
        for (String end : new String[] {"l", "le", "kee", "i", "?", "=", "!", "let if", "let if 1", "let if 9999", "let if 1 <", "let if 1 =", "let if in"}) {
            // The last byte may be the first of a token that would go on.
            boolean wrong = end.length() < 4 || end.endsWith("=");
            reads(sentence, times(" ", 2000 - end.length()) + end, SYNTAX, wrong ? 2000 - (end.endsWith("=") ? 1 : end.length()) : 2000);
        }
        EDGES.house(sentence).consent(0, times(" ", 1995) + "keep;").due("let(0, 60, 0, 0)", -2);
        EDGES.house(sentence).reads(0, times("z", 2000), SYNTAX, 0).reads(0, times("9", 2000), SYNTAX, 0).reads(0, times("let;", 500), ROOM, 64);
        // Of each its own.
        Script script = EDGES.house(sentence).given("tape(1, 50, 9)", "piece(1, 0, 1, 0, 1, 0)");
        script.consent(0, "let;").due("let(1, 60, 0, 0)", -3).consent(1, "keep;").due("let(0, 60, 0, 0)", 0).due("let(1, 60, 0, 0)", -2);
    }

    private static void blanks() {
        for (int blank : new int[] {9, 10, 13, 32}) {
            String b = String.valueOf((char) blank);
            reads(BLANKS, b + "let" + b + "if" + b + b + "in" + b + "0" + b + ";" + b, 0, NONE);
            reads(BLANKS, b + "let" + b, SYNTAX, 5);
            reads(BLANKS, "l" + b + "et;", SYNTAX, 0);
            reads(BLANKS, "let if 1" + b + "1<1;", SYNTAX, 9);
            reads(BLANKS, "let if 1<" + b + "=1;", SYNTAX, 10);
            reads(BLANKS, "let if 1=" + b + "=1;", SYNTAX, 8);
            reads(BLANKS, "let if 1!" + b + "=1;", SYNTAX, 8);
        }
        reads(BLANKS, "", 0, NONE);
        reads(BLANKS, "let;keep;mask;let if in0;", 0, NONE);
        reads(BLANKS, "let if(1)<(2)and(3)!=4or in0and 5==kind+2*use;", 0, NONE);
        reads(BLANKS, "letif in0;", SYNTAX, 0);
        reads(BLANKS, "let if in0and1<2or3<4;", 0, NONE);
        reads(BLANKS, "let if in0andin0;", SYNTAX, 10);
    }

    /** Every byte there is, in the middle of a text: which are blanks, letters, digits, signs, nothing. */
    private static void bytesBehindAWord() {
        for (int c = 0; c < 256; c++) {
            boolean blank = c == 9 || c == 10 || c == 13 || c == 32;
            boolean letter = c >= 'a' && c <= 'z';
            int place = blank ? NONE : letter ? 0 : c == ';' ? 4 : 3;
            reads(blank ? BLANKS : letter ? "WORDS (letters a .. z, 8 at most)" : SIGNS, "let" + (char) c + ";", blank ? 0 : SYNTAX, place);
            boolean digit = c >= '0' && c <= '9';
            boolean operator = c == '+' || c == '-' || c == '*';
            reads(digit ? "INTS (1 to 4 digits)" : SIGNS, "let if 1" + (char) c + "1 < 1;", digit || operator ? 0 : SYNTAX,
                digit || operator ? NONE : blank || c == '<' ? (blank ? 9 : 11) : 8);
            reads(blank ? BLANKS : SIGNS, "let;" + (char) c, blank ? 0 : SYNTAX, blank ? NONE : 4);
        }
    }

    private static void words() {
        String sentence = "WORDS (letters a .. z, 8 at most)";
        for (String word : new String[] {"a", "z", "abcdefgh", "zzzzzzzz", "abcdefghi", "letkeepmask", "maskmask", "maskmaskm", "le", "lett",
            "ke", "keeps", "mas", "masks", "i", "iff", "Let", "LET", "let_", "ifs"}) {
            boolean starts = word.startsWith("let") && word.length() == 4 && word.endsWith("_");
            reads(sentence, word + ";", SYNTAX, starts ? 3 : 0);
            reads(sentence, "let; " + word, SYNTAX, starts ? 8 : 5);
        }
        for (String word : new String[] {"kin", "kinds", "us", "uses", "ag", "ages", "dea", "deads", "piec", "pieces", "name", "namess", "ow", "owns",
            "int", "inn", "x", "abcdefgh", "abcdefghi", "ki\u00eed", "Kind"}) {
            reads(sentence, "let if " + word + " == 1;", SYNTAX, 7);
        }
        for (String word : new String[] {"kind", "use", "age", "dead", "piece", "names", "own"}) {
            reads(sentence, "let if " + word + " == 1;", 0, NONE);
            reads(sentence, "let if 1 == 1 an" + word + " 1;", SYNTAX, 14);
        }
    }

    private static void ints() {
        String sentence = "INTS (1 to 4 digits)";
        for (String digits : new String[] {"0", "9", "00", "99", "000", "999", "0000", "9999", "0009"}) {
            reads(sentence, "let if " + digits + " == " + digits + ";", 0, NONE);
        }
        for (String digits : new String[] {"00000", "10000", "99999", "123456789", "00000000000000000000", "4294967296"}) {
            reads(sentence, "let if " + digits + " == 0;", SYNTAX, 7);
            reads(sentence, "let if 1 == " + digits + ";", SYNTAX, 12);
            reads(sentence, "let if in " + digits + ";", SYNTAX, 10);
        }
        EDGES.house(sentence).consent(0, "keep if 9999 != 9998 + 1; keep if 0012 != 12; keep if 1000 != 999 + 0001; let if in 0000;")
            .due("let(0, 60, 0, 0)", 3);
    }

    private static void signs() {
        for (String sign : new String[] {"==", "!=", "<", "<="}) {
            reads(SIGNS, "let if 1" + sign + "1;", 0, NONE);
        }
        reads(SIGNS, "let if 1=1;", SYNTAX, 8);
        reads(SIGNS, "let if 1!1;", SYNTAX, 8);
        reads(SIGNS, "let if 1>1;", SYNTAX, 8);
        reads(SIGNS, "let if 1>=1;", SYNTAX, 8);
        reads(SIGNS, "let if 1=<1;", SYNTAX, 8);
        reads(SIGNS, "let if 1<>1;", SYNTAX, 9);
        reads(SIGNS, "let if 1<<1;", SYNTAX, 9);
        reads(SIGNS, "let if 1===1;", SYNTAX, 10);
        reads(SIGNS, "let if 1!==1;", SYNTAX, 10);
        reads(SIGNS, "let if 1<==1;", SYNTAX, 10);
        reads(SIGNS, "let if 1====1;", SYNTAX, 10);
        reads(SIGNS, "let if 1=", SYNTAX, 8);
        reads(SIGNS, "let if 1!", SYNTAX, 8);
        reads(SIGNS, "let if 1<", SYNTAX, 9);
        reads(SIGNS, "let if 1<=", SYNTAX, 10);
        reads(SIGNS, "let if 1==", SYNTAX, 10);
        // An = that went with back() is no part of a sign.
        EDGES.house(SIGNS).text("let if 1<=").given("back(1)").text("2;").due("read(0)", 0).due("let(0, 60, 0, 0)", 0);
        EDGES.house(SIGNS).text("let if 1==").given("back(1)").due("read(0)", SYNTAX).due("place()", 8);
    }

    private static void longestThatCanBe() {
        String sentence = "TOKENS, the longest that can be, with blanks (9, 10, 13, 32) between or not";
        // Cut shorter, the words would go on: 'let' 'if', 'if' 'in', 'or' 'in', 'and' 'kind'.
        reads(sentence, "letif 1<2;", SYNTAX, 0);
        reads(sentence, "let ifin 0;", SYNTAX, 4);
        reads(sentence, "let if inn 0;", SYNTAX, 7);
        reads(sentence, "let if in 0 orin 0;", SYNTAX, 12);
        reads(sentence, "let if kinduse<1;", SYNTAX, 7);
        reads(sentence, "let if 1<2and1<2;", 0, NONE);
        reads(sentence, "let if 1<2andkind<2;", SYNTAX, 10);
        reads(sentence, "let if in00and in000or in0000;", 0, NONE);
        EDGES.house(sentence).consent(0, "keep if 12!=10+2;keep if 1<=0;keep if 2<1;let if 1<=1and 3<=4;").due("let(0, 60, 0, 0)", 3);
    }

    /** A longer one is none from its first byte on, though what it begins with would go on. */
    private static void longerOnes() {
        String sentence = "A longer one, all else, is no TOKEN.";
        for (String word : new String[] {"letletlet", "keepkeepk", "maskmaskmask", "letabcdef", "let".repeat(600)}) {
            reads(sentence, word + ";", SYNTAX, 0);
            reads(sentence, "let;" + word + ";", SYNTAX, 4);
            reads(sentence, "let;\n" + word, SYNTAX, 5);
        }
        for (String word : new String[] {"kindkindk", "useabcdefgh", "ageageage", "deaddeadd", "piecepiece", "namesnames", "ownownown", "ininininin"}) {
            reads(sentence, "let if " + word + " == 1;", SYNTAX, 7);
            reads(sentence, "let if 1 == (" + word + ");", SYNTAX, 13);
            reads(sentence, "let if in 0 and " + word + ";", SYNTAX, 16);
        }
        reads(sentence, "let ififififi in 0;", SYNTAX, 4);
        reads(sentence, "let if in 0 andandand in 0;", SYNTAX, 12);
        reads(sentence, "let if in 0 ororororo in 0;", SYNTAX, 12);
        for (String digits : new String[] {"00000", "12345", "0".repeat(400), "4294967297", "99999999999999999999"}) {
            reads(sentence, "let if " + digits + "<1;", SYNTAX, 7);
            reads(sentence, "let if 1+" + digits + "<1;", SYNTAX, 9);
            reads(sentence, "let if 1<(" + digits + ");", SYNTAX, 10);
            reads(sentence, "let if in 0 or in " + digits + ";", SYNTAX, 18);
            reads(sentence, "let if kind" + digits + "<1;", SYNTAX, 11);
        }
    }

    private static void eachVar() {
        String sentence = "VAR: 'kind' | 'use' | 'age' | 'dead' | 'piece' | 'names' | 'own'.";
        // Piece 1 names its speaker; on day 60 it is 10 days old, and the speaker is 5 days dead.
        String[] vars = {"kind", "use", "age", "dead", "piece", "names", "own"};
        int[] values = {3, 2, 10, 5, 1, 0, 1};
        for (int i = 0; i < vars.length; i++) {
            Script script = EDGES.house(sentence).given("piece(0, 10, 20, 0, 0, 0)", "dies(0, 55)");
            script.consent(0, "keep if " + vars[i] + " != " + values[i] + "; let if " + values[i] + " == " + vars[i] + ";").due("let(1, 60, 3, 2)", 1);
            script.consent(0, "mask if 2*(" + vars[i] + "+1)+" + vars[i] + "*" + vars[i] + " == " + (2 * (values[i] + 1) + values[i] * values[i]) + ";");
            script.due("mask(1, 60, 3, 2)", 0);
        }
        for (String word : new String[] {"let", "keep", "mask", "if", "or", "and", "day", "death", "name", "topic", "asker"}) {
            reads(sentence, "let if " + word + " == 1;", SYNTAX, 7);
            reads(sentence, "let if 1 == " + word + ";", SYNTAX, 12);
        }
    }

    private static final String HEADS = "let keep mask";
    private static final String VARS = "kind use age dead piece names own";
    private static final String UNITS = "0 ( " + VARS;
    private static final String OPERATORS = "+ - *";
    private static final String COMPARISONS = "== != < <=";
    private static final String ENDS = "and or ;";

    /** Beginnings of texts, and the tokens with which each goes on (. stands for the text's end). */
    private static final String[][] STATES = {
        {"", HEADS + " ."}, {"let;", HEADS + " ."}, {"mask if in 0;", HEADS + " ."}, {"let if 1 < 1;", HEADS + " ."},
        {"let", "if ;"}, {"keep", "if ;"}, {"mask", "if ;"}, {"let; mask", "if ;"},
        {"let if", "in " + UNITS}, {"keep if", "in " + UNITS}, {"mask if", "in " + UNITS},
        {"let if in", "0"}, {"let if 1 < 1 and in", "0"}, {"let if in 0", ENDS}, {"let if 1 < 1 or in 0", ENDS},
        {"let if 1", OPERATORS + " " + COMPARISONS}, {"let if age", OPERATORS + " " + COMPARISONS},
        {"let if 1 +", UNITS}, {"let if 1 -", UNITS}, {"let if 1 *", UNITS}, {"let if 1 + 1 *", UNITS},
        {"let if 1 + 1", OPERATORS + " " + COMPARISONS}, {"let if 1 * 1", OPERATORS + " " + COMPARISONS},
        {"let if (", UNITS}, {"let if ((", UNITS}, {"let if (1", OPERATORS + " )"}, {"let if (1 +", UNITS},
        {"let if ((1)", OPERATORS + " )"}, {"let if (1)", OPERATORS + " " + COMPARISONS},
        {"let if 1 ==", UNITS}, {"let if 1 !=", UNITS}, {"let if 1 <", UNITS}, {"let if 1 <=", UNITS},
        {"let if 1 < 1", OPERATORS + " " + ENDS}, {"let if 1 == own", OPERATORS + " " + ENDS}, {"let if 1 < (", UNITS},
        {"let if 1 < (1", OPERATORS + " )"}, {"let if 1 < (1)", OPERATORS + " " + ENDS}, {"let if 1 < 1 -", UNITS},
        {"let if 1 < 1 and", "in " + UNITS}, {"let if 1 < 1 or", "in " + UNITS}, {"let if in 0 and", "in " + UNITS},
        {"let if in 0 or", "in " + UNITS}, {"let if in 0 and 1", OPERATORS + " " + COMPARISONS},
        {"let if 1 < 1 or 1", OPERATORS + " " + COMPARISONS}, {"let if 1 < 1 and 1 < 1", OPERATORS + " " + ENDS}};

    private static final String ALL_TOKENS = HEADS + " if in " + UNITS + " " + OPERATORS + " " + COMPARISONS + " ) " + ENDS
        + " abc abcdefgh abcdefghi 12345 = ! > . , ? \u0000 \u00ff";

    private static void eachTokenInEachState() {
        for (String[] state : STATES) {
            List<String> goesOn = Arrays.asList(state[1].split(" "));
            for (String token : ALL_TOKENS.split(" ")) {
                String text = state[0] + " " + token;
                boolean taken = goesOn.contains(token) && !token.equals(".");
                boolean whole = taken && token.equals(";");
                reads(SYNTAX_FAULT, text, whole ? 0 : SYNTAX, whole ? NONE : taken ? text.length() : state[0].length() + 1);
            }
        }
    }

    private static void endInEachState() {
        for (String[] state : STATES) {
            boolean whole = state[1].endsWith(" .");
            reads(ORDER, state[0], whole ? 0 : SYNTAX, whole ? NONE : state[0].length());
            reads(ORDER, state[0] + " \n", whole ? 0 : SYNTAX, whole ? NONE : state[0].length() + 2);
        }
    }

    /** A rule of so many tokens (an even number from 6 on) but for its ; at the end. */
    private static String rule(int tokens) {
        return "let if 1" + times("+1", (tokens - 6) / 2) + "<1";
    }

    private static void tokenRoom() {
        String open = rule(400);
        int end = open.length();
        reads(TOKEN_ROOM, open + ";", 0, NONE);
        reads(TOKEN_ROOM, open + "; \t\r\n", 0, NONE);
        reads(TOKEN_ROOM, open + ";let", ROOM, end + 1);
        reads(TOKEN_ROOM, open + ";  keep;", ROOM, end + 3);
        reads(TOKEN_ROOM, open + ";mask", ROOM, end + 1);
        reads(TOKEN_ROOM, open + "+1;", ROOM, end + 1);
        reads(TOKEN_ROOM, open + "*(", ROOM, end + 1);
        reads(TOKEN_ROOM, open + " and in 0;", ROOM, end + 5);
        reads(TOKEN_ROOM, open + " or kind", ROOM, end + 4);
        // The 400th is the last that is taken, whatever it is.
        reads(TOKEN_ROOM, open, SYNTAX, end);
        reads(TOKEN_ROOM, open + "+", SYNTAX, end + 1);
        reads(TOKEN_ROOM, open + " and", SYNTAX, end + 4);
        reads(TOKEN_ROOM, open + "-  ", SYNTAX, end + 3);
        // 200 rules would be too many; 16 of 25 tokens are not: an in and a test more each.
        String odd = "let if in 0 and 1+1+1+1+1+1+1+1+1<1;";
        reads(TOKEN_ROOM, times(odd, 16), 0, NONE);
        reads(TOKEN_ROOM, times(odd, 15) + odd.replace(";", "+"), SYNTAX, 16 * odd.length());
        reads(TOKEN_ROOM, times(odd, 15) + odd.replace(";", "+1;"), ROOM, 16 * odd.length());
    }

    private static void ruleRoom() {
        for (String head : new String[] {"let", "keep", "mask"}) {
            reads(RULE_ROOM, times("let;", 16) + head, ROOM, 64);
            reads(RULE_ROOM, times("let;", 16) + " \n" + head + ";", ROOM, 66);
            reads(RULE_ROOM, times(head + ";", 16), 0, NONE);
            reads(RULE_ROOM, times(head + ";", 15) + "let if in 0 ;", 0, NONE);
            reads(RULE_ROOM, times(head + ";", 17), ROOM, 16 * head.length() + 16);
            reads(RULE_ROOM, times(head + " if in 0;", 17), ROOM, 16 * head.length() + 16 * 9);
        }
        reads(RULE_ROOM, times("let;", 15) + "mask", SYNTAX, 64);
        reads(RULE_ROOM, times("let;", 16) + "   ", 0, NONE);
        reads(RULE_ROOM, times("let;", 16) + "if", SYNTAX, 64);
        reads(RULE_ROOM, times("let;", 16) + ";", SYNTAX, 64);
        EDGES.house("RULES are numbered from 0 on.").consent(0, times("let if 1==2;", 14) + "mask;let;").due("let(0, 60, 0, 0)", 15)
            .due("mask(0, 60, 0, 0)", 14).consent(0, times("mask if 1==2;", 15) + "mask;").due("let(0, 60, 0, 0)", -3)
            .due("mask(0, 60, 0, 0)", 15).consent(0, "let;mask;").due("let(0, 60, 0, 0)", 0).due("mask(0, 60, 0, 0)", 1);
    }

    private static void depthRoom() {
        reads(DEPTH_ROOM, "let if ((((((1)))))) < 1;", 0, NONE);
        reads(DEPTH_ROOM, "let if (((((((1))))))) < 1;", ROOM, 13);
        reads(DEPTH_ROOM, "let if (((((( (", ROOM, 14);
        reads(DEPTH_ROOM, "let if ((((((", SYNTAX, 13);
        reads(DEPTH_ROOM, "let if 1 < ((((((1))))));", 0, NONE);
        reads(DEPTH_ROOM, "let if 1 < (((((((1", ROOM, 17);
        reads(DEPTH_ROOM, "let if ((((((1)))))) < ((((((1)))))) and ((((((1)))))) == 1 or ((((((1)))))) != 2;", 0, NONE);
        reads(DEPTH_ROOM, "let if ((((((1)+(2))-(3))*(4)))) < 1;", 0, NONE);
        reads(DEPTH_ROOM, "let if ((((((1)+(2)+((3", ROOM, 21);
        reads(DEPTH_ROOM, "let if (((((1)+((2", SYNTAX, 18);
        reads(DEPTH_ROOM, "let if (((((1)+(((2", ROOM, 17);
        reads(DEPTH_ROOM, "let if 1+(2*(3+(4*(5+(6*(7+8)))))) < 1; keep if ((((((1)))))) < 1;", 0, NONE);
        reads(DEPTH_ROOM, "let if 1+(2*(3+(4*(5+(6*(7+(8", ROOM, 27);
        reads(DEPTH_ROOM, times("let if (1)+(1)<(1)+((1));", 16), 0, NONE);
        EDGES.house(DEPTH_ROOM).consent(0, "keep if 1+2*(1+2*(1+2*(1+2*(1+2*(1+2*(1+2)))))) != 255; let if 9-1*(9-1*(9-1*(9-1*(9-1*(9-1*(9-1)))))) == 8;")
            .due("let(0, 60, 0, 0)", 1);
    }

    /** 2,000 bytes, 400 tokens, 16 rules and six brackets within one another: all that there is room for. */
    private static void allRoomAtOnce() {
        String deep = "keep if ((((((1)))))) != 1 and in 0;";
        // The deep one has 21 tokens, and 14 have 25 each, which leaves 29 for the last one.
        String odd = "keep if in 0 and 1+1+1+1+1+1+1+1+1!=9;";
        String last = "let if 1" + times("+1", 10) + "==11 and in 0;";
        String text = deep + times(odd, 14) + last;
        String whole = text.substring(0, text.length() - 1) + times(" ", 2000 - text.length()) + ";";
        EDGES.house("CONSENTS are texts of at most 2,000 bytes, one of each SPEAKER.").consent(0, whole).due("let(0, 60, 0, 0)", 15);
        reads(TOKEN_ROOM, text + "let", ROOM, text.length());
        reads(TOKEN_ROOM, text.substring(0, text.length() - 1) + "and in 0;", ROOM, text.length() + 3);
    }

    private static void order() {
        String sixteen = times("let;", 16);
        String full = rule(400);
        int end = full.length();
        // Of one place the least.
        reads(ORDER, full + ";;", SYNTAX, end + 1);
        reads(ORDER, full + ";if", SYNTAX, end + 1);
        reads(ORDER, full + "; abc", SYNTAX, end + 2);
        reads(ORDER, full + "; abcdefghi", SYNTAX, end + 2);
        reads(ORDER, full + ";12345", SYNTAX, end + 1);
        reads(ORDER, full + ";=", SYNTAX, end + 1);
        reads(ORDER, full + "+)", SYNTAX, end + 1);
        reads(ORDER, sixteen + "lets", SYNTAX, 64);
        reads(ORDER, sixteen + "LET", SYNTAX, 64);
        reads(ORDER, "let if ((((((1(", SYNTAX, 14);
        reads(ORDER, "let if 1((((((", SYNTAX, 8);
        // The first by its place.
        reads(ORDER, sixteen + "let let", ROOM, 64);
        reads(ORDER, sixteen + "let?", ROOM, 64);
        reads(ORDER, "let let;" + sixteen, SYNTAX, 4);
        reads(ORDER, "let if ((((((( if", ROOM, 13);
        reads(ORDER, "let if if (((((((", SYNTAX, 7);
        reads(ORDER, "?" + sixteen + "let", SYNTAX, 0);
        reads(ORDER, full + "+1 1;", ROOM, end + 1);
        reads(ORDER, full + " 1" + times("+1", 9), SYNTAX, end + 1);
        reads(ORDER, "let if (((((((1" + times("+1", 300), ROOM, 13);
        reads(ORDER, sixteen + "let if (((((((", ROOM, 64);
        // Two of ROOM at one place: a 401st token that is a 17th rule's, and one that is a 7th bracket.
        String odd = "let if in 0 and 1+1+1+1+1+1+1+1+1<1;";
        reads(ORDER, times(odd, 16) + " keep;", ROOM, 16 * odd.length() + 1);
        String brackets = "let if 1" + times("+1", 195) + "+((((((";
        reads(ORDER, brackets, SYNTAX, brackets.length());
        reads(ORDER, brackets + "1", ROOM, brackets.length());
        reads(ORDER, brackets + "(1", ROOM, brackets.length());
        reads(ORDER, brackets.replace("+((((((", "<+(((((("), SYNTAX, brackets.length() - 6);
    }

    private static void nameTopics() {
        EDGES.of(NAME_FAULT).given("person(0, 0, 0, 0)").reads(0, "let if in 0;", NAME, 10).given("topic(NONE)").reads(0, "let if in 0;", 0, NONE);
        reads(NAME_FAULT, "let if in 0;", 0, NONE);
        reads(NAME_FAULT, "let if in 1;", NAME, 10);
        reads(NAME_FAULT, "let if in 9999;", NAME, 10);
        reads(NAME_FAULT, "let if in 0000 and in 0001;", NAME, 22);
        Script script = EDGES.house(NAME_FAULT);
        for (int i = 1; i < 12; i++) {
            script.reads(0, "keep if in " + i + ";", NAME, 11).given("topic(NONE)").reads(0, "keep if in " + i + ";", 0, NONE);
        }
        script.reads(0, "let if in 12;", NAME, 10).reads(0, "let if in 11 or in 0;", 0, NONE).reads(0, "let if in 11 or in 12;", NAME, 19);
    }

    private static void nameLast() {
        reads(NAME_FAULT, "let if in 1; keep", SYNTAX, 17);
        reads(NAME_FAULT, "let if in 1", SYNTAX, 11);
        reads(NAME_FAULT, "let if in 1 in 0;", SYNTAX, 12);
        reads(NAME_FAULT, "let if in 1;" + times("let;", 16), ROOM, 72);
        reads(NAME_FAULT, "let if in 1 and (((((((1", ROOM, 22);
        reads(NAME_FAULT, "let if in 1 or 1" + times("+1", 300) + "<1;", ROOM, 15 + 395);
        reads(NAME_FAULT, "let if in 12345;", SYNTAX, 10);
        reads(NAME_FAULT, "let if in 2 or in 1;", NAME, 10);
        reads(NAME_FAULT, "let; mask if 1 < 2 and in   7 or in 0; keep if in 8;", NAME, 28);
        reads(NAME_FAULT, times("let;", 15) + "mask if in 1;", NAME, 71);
    }

    private static void nameThen() {
        // What is there counts when it is read, and not later.
        EDGES.house(NAME_FAULT).reads(0, "let if in 1;", NAME, 10).given("topic(0)", "piece(0, 20, 30, 1, NONE, 0)").due("let(1, 60, 0, 0)", -3)
            .consent(0, "let if in 1;").due("let(1, 60, 0, 0)", 0).due("let(0, 60, 0, 0)", -3);
    }

    private static void faultChangesNothing() {
        String sentence = "A text with a FAULT changes nothing";
        String[] faulty = {"let; let", "?", "let if 1", times("let;", 17), "let if 1 < (((((((1", "let; mask if in 1;", "let;" + times(" ", 1995) + ";"};
        int[] faults = {SYNTAX, SYNTAX, SYNTAX, ROOM, ROOM, NAME, SYNTAX};
        for (int i = 0; i < faulty.length; i++) {
            Script script = EDGES.house(sentence).given("asker(0)", "tape(1, 0, 9)", "piece(1, 0, 1, 0, 0, 0)");
            script.consent(1, "let if use == 1;").text(faulty[i]).due("read(0)", faults[i]).due("let(0, 60, 0, 0)", -3);
            script.consent(0, "keep if kind == 1; let if age == 10; mask if use == 2;").text(faulty[i]).due("read(0)", faults[i]);
            script.due("let(0, 60, 0, 0)", 1).due("let(0, 60, 1, 0)", -2).due("let(0, 61, 0, 0)", -3).due("mask(0, 60, 0, 2)", 2);
            script.due("mask(0, 60, 0, 1)", NONE).due("opens(0, 0, 0, 0)", 60).due("would(0, 0, NONE, 60, 0)", 2);
            script.due("let(1, 60, 0, 1)", 0).due("let(1, 60, 0, 0)", -3).text(faulty[i]).due("read(1)", faults[i]);
            script.due("let(0, 60, 0, 0)", 1).due("let(1, 60, 0, 1)", 0).due("let(1, 60, 0, 0)", -3);
        }
    }

    private static void inPlaceOfTheOneAhead() {
        String sentence = "else it is that SPEAKER's, in place of the one ahead";
        Script script = EDGES.house(sentence).consent(0, times("let if age < 11 and 1+1 == 2;", 16)).due("let(0, 60, 0, 0)", 0);
        script.consent(0, "mask;").due("let(0, 60, 0, 0)", -3).due("mask(0, 60, 0, 0)", 0);
        script.consent(0, "").due("mask(0, 60, 0, 0)", NONE).due("let(0, 60, 0, 0)", -3);
        script.consent(0, "keep if age == 3; let;").due("let(0, 60, 0, 0)", 1).due("opens(0, 53, 0, 0)", 54);
        script.consent(0, " \t").due("let(0, 60, 0, 0)", -3).due("opens(0, 0, 0, 0)", NONE);
        script.consent(0, "let if own == 0;").due("let(0, 60, 0, 0)", 0).consent(0, "let if own == 1;").due("let(0, 60, 0, 0)", -3);
    }

    /** Nothing of a text ahead is left, with a fault or without, however far it went. */
    private static void nothingOfTextsAhead() {
        String sentence = "else it is that SPEAKER's, in place of the one ahead";
        String[] ahead = {"let if 1+", "let if 2*", "let if ((((1+2*(3", "keep if 1 < 2 and 7 == 7 or", "mask if 2*2 < 3 + age;", "let if 5 < 1 + (2 - ",
            "let if 1 < 2 and", "let if 1 <", "let if in 7;", "let; mask; mask; keep;", times("mask;", 16), times("keep if in 0;", 16), "let if age == 3;"};
        for (String text : ahead) {
            Script script = EDGES.house(sentence).text(text).given("read(0)").text(text).given("read(0)");
            script.consent(0, "keep if (1+1)*2 == 5; let if 2+2*2 == 6 and in 0; keep;").due("let(0, 60, 0, 0)", 1).due("mask(0, 60, 0, 0)", NONE);
            script.text(text).given("read(1)").consent(0, "keep if 1 == 2;").due("let(0, 60, 0, 0)", -3).due("mask(0, 60, 0, 0)", NONE);
            script.text(text).given("read(1)").consent(0, "mask if 1 == 2; let if 1+2*3 == 7;").due("let(0, 60, 0, 0)", 1).due("mask(0, 60, 0, 0)", NONE);
            script.text(text).given("read(1)").consent(0, "let if 1 == 2;").due("let(0, 60, 0, 0)", -3).due("opens(0, 0, 0, 0)", NONE);
            script.text(text).given("read(1)").consent(0, "").due("let(0, 60, 0, 0)", -3).due("mask(0, 60, 0, 0)", NONE);
        }
    }

    /** Each text has room of its own, however many were read before. */
    private static void manyLongTexts() {
        Script script = EDGES.house("2 ROOM: a 401st TOKEN;");
        for (int i = 0; i < 8; i++) {
            script.consent(0, "let if 0" + times("+1", 196) + "+kind==" + (196 + i % 4) + ";").due("let(0, 60, " + i % 4 + ", 0)", 0);
            script.due("let(0, 60, " + (i + 1) % 4 + ", 0)", -3);
        }
    }
}
