/** The edges of the days of what was told: 'Terms' IV, and promises 24 to 28. */
public final class EdgesOfTellingsTests {
    private static final int NONE = TapeHouse.NONE;
    private static final Edges EDGES = new Edges();
    private static final String SPAN = "A TELLING: an EVENT is on a DAY from a to b: its number. NONE, and nothing happens: "
        + "12 are there, no such EVENT, a, b not 0 .. 9999, a above b.";
    private static final String BEHIND = "A TELLING: an EVENT is at least d DAYS behind another one: its number. NONE, and "
        + "nothing happens: 12 are there, no such EVENTS, one and the same, no such d.";
    private static final String SAME = "A TELLING: two EVENTS are one: its number. NONE, and nothing happens: 12 are there, "
        + "no such EVENTS, one and the same.";
    private static final String LEFT = "TELLINGS that are LEFT OUT (bits), as KNOWN by n; NONE: no such n.";
    private static final String WHEN = "EARLIEST (what 0), LATEST (what 1) of an EVENT, as KNOWN by n; NONE: no such ones.";
    private static final String TELLINGS = "TELLINGS, 12 at most, numbered from 0 on; as KNOWN by n the first n of them are";
    private static final String AGREES =
        "A set of TELLINGS AGREES if there are DAYS 0 .. 9999 for all EVENTS by which they all hold.";
    private static final String FEWEST = "LEFT OUT are, of all sets of the first n without which the others AGREE, those of "
        + "the fewest TELLINGS; of these the first by who is in (the greatest number that is not in both: so that earlier ones stay).";
    private static final String EARLIEST = "EARLIEST and LATEST of an EVENT: the least and the greatest DAY that it has in "
        + "DAYS by which all that are not LEFT OUT hold.";

    public static void main(String[] args) {
        tenEvents();
        spanArguments();
        spanDays();
        behindArguments();
        behindDays();
        sameArguments();
        sameDays();
        twelveTellings();
        knownBy();
        leftArguments();
        whenArguments();
        calendarEnds();
        chains();
        rings();
        oneOfTwo();
        fewestFirst();
        greatestNumberFirst();
        twoSidesAsMany();
        allButOne();
        leftOutDoNotCount();
        freeEvents();
        EDGES.end();
    }

    private static void tenEvents() {
        Script script = EDGES.of("EVENTS 0 .. 9.");
        for (int event = 0; event < 10; event++) {
            script.due("span(" + event + ", " + event + ", " + event + ")", event).due("when(" + event + ", " + (event + 1) + ", 1)", event);
        }
        String[] calls = {"span($, 0, 0)", "behind($, 0, 0)", "behind(0, $, 0)", "same($, 0)", "same(0, $)", "when($, 10, 0)"};
        for (String call : calls) {
            script.refuses(Edges.with(call, 10), NONE).refuses(Edges.with(call, -1), NONE);
        }
        for (int event = 0; event < 10; event++) {
            script.due("when(" + event + ", 10, 0)", event);
        }
    }

    private static void spanArguments() {
        EDGES.range(SPAN, Edges::nothing, "span($, 5, 7)", 0, 9, 0, NONE);
        EDGES.range(SPAN, Edges::nothing, "span(0, $, 9999)", 0, 9999, 0, NONE);
        EDGES.range(SPAN, Edges::nothing, "span(0, 0, $)", 0, 9999, 0, NONE);
        EDGES.range(SPAN, Edges::nothing, "span(0, $, 500)", 0, 500, 0, NONE);
        EDGES.range(SPAN, Edges::nothing, "span(0, 500, $)", 500, 9999, 0, NONE);
        EDGES.of(SPAN).refuses("span(0, 1, 0)", NONE).refuses("span(0, 9999, 9998)", NONE).refuses("span(0, -1, -1)", NONE)
            .refuses("span(0, 10000, 10000)", NONE).refuses("span(0, MAX, MIN)", NONE).refuses("span(0, MIN, MAX)", NONE)
            .due("span(0, 0, 0)", 0).due("span(1, 9999, 9999)", 1).due("span(2, 0, 9999)", 2).due("count(6)", 3);
    }

    private static void spanDays() {
        EDGES.of("an EVENT is on a DAY from a to b (0 .. 9999)").given("span(0, 0, 0)", "span(9, 9999, 9999)", "span(4, 17, 18)", "span(5, 0, 9999)")
            .due("when(0, 4, 0)", 0).due("when(0, 4, 1)", 0).due("when(9, 4, 0)", 9999).due("when(9, 4, 1)", 9999)
            .due("when(4, 4, 0)", 17).due("when(4, 4, 1)", 18).due("when(5, 4, 0)", 0).due("when(5, 4, 1)", 9999).due("left(4)", 0);
    }

    private static void behindArguments() {
        EDGES.range(BEHIND, Edges::nothing, "behind($, 4, 7)", 0, 9, 0, NONE);
        EDGES.range(BEHIND, Edges::nothing, "behind(4, $, 7)", 0, 9, 0, NONE);
        EDGES.range(BEHIND, Edges::nothing, "behind(4, 5, $)", -9999, 9999, 0, NONE);
        Script script = EDGES.of(BEHIND);
        for (int event = 0; event < 10; event++) {
            script.refuses("behind(" + event + ", " + event + ", 0)", NONE).refuses("behind(" + event + ", " + event + ", -1)", NONE);
        }
        script.refuses("behind(10, 10, 0)", NONE).refuses("behind(NONE, NONE, 0)", NONE).due("behind(0, 9, 0)", 0).due("behind(9, 0, 0)", 1).due("left(2)", 0);
    }

    private static void behindDays() {
        String sentence = "an EVENT is at least d DAYS (-9999 .. 9999) behind another one";
        EDGES.of(sentence).given("behind(3, 4, 9999)").due("when(3, 1, 0)", 9999).due("when(3, 1, 1)", 9999).due("when(4, 1, 0)", 0).due("when(4, 1, 1)", 0);
        EDGES.of(sentence).given("behind(3, 4, 9998)").due("when(3, 1, 0)", 9998).due("when(3, 1, 1)", 9999).due("when(4, 1, 0)", 0).due("when(4, 1, 1)", 1);
        EDGES.of(sentence).given("behind(3, 4, -9999)", "span(4, 9999, 9999)").due("when(3, 2, 0)", 0).due("when(3, 2, 1)", 9999)
            .given("span(3, 0, 0)").due("left(3)", 0);
        EDGES.of(sentence).given("behind(3, 4, -9998)", "span(4, 9999, 9999)").due("when(3, 2, 0)", 1).due("when(3, 2, 1)", 9999)
            .given("span(3, 0, 0)").due("left(3)", 4);
        EDGES.of(sentence).given("behind(3, 4, 0)", "span(4, 70, 80)").due("when(3, 2, 0)", 70).due("when(3, 2, 1)", 9999)
            .given("span(3, 0, 75)").due("when(4, 3, 1)", 75).due("when(3, 3, 0)", 70).due("when(3, 3, 1)", 75);
        EDGES.of(sentence).given("behind(3, 4, 1)", "span(4, 70, 70)", "span(3, 71, 71)").due("left(3)", 0).given("span(3, 70, 70)").due("left(4)", 8);
    }

    private static void sameArguments() {
        EDGES.range(SAME, Edges::nothing, "same($, 4)", 0, 9, 0, NONE);
        EDGES.range(SAME, Edges::nothing, "same(4, $)", 0, 9, 0, NONE);
        Script script = EDGES.of(SAME);
        for (int event = 0; event < 10; event++) {
            script.refuses("same(" + event + ", " + event + ")", NONE);
        }
        script.refuses("same(10, 10)", NONE).refuses("same(NONE, NONE)", NONE).due("same(0, 9)", 0).due("same(9, 0)", 1).due("left(2)", 0);
    }

    private static void sameDays() {
        EDGES.of("two EVENTS are one (on the same DAY)").given("same(2, 7)", "span(2, 100, 200)").due("when(7, 2, 0)", 100).due("when(7, 2, 1)", 200)
            .given("span(7, 200, 300)").due("when(2, 3, 0)", 200).due("when(2, 3, 1)", 200).due("when(7, 3, 1)", 200).due("left(3)", 0)
            .given("span(7, 201, 300)").due("left(4)", 8).due("when(7, 4, 1)", 200).given("behind(7, 2, 0)", "behind(2, 7, 0)").due("left(6)", 8)
            .given("behind(2, 7, -1)").due("left(7)", 8).given("behind(2, 7, 1)").due("left(8)", 136);
    }

    private static void twelveTellings() {
        String[] kinds = {"span(0, 5, 5)", "behind(0, 1, 1)", "same(2, 3)"};
        for (String kind : kinds) {
            Script script = EDGES.of(TELLINGS).due("left(1)", NONE);
            for (int i = 0; i < 12; i++) {
                script.due(kind, i).due("count(6)", i + 1).due("left(" + (i + 1) + ")", 0);
            }
            for (String another : kinds) {
                script.refuses(another, NONE);
            }
            script.refuses("span(0, 9, 9)", NONE).refuses("behind(1, 0, 9)", NONE).refuses("span(10, 0, 0)", NONE).due("count(6)", 12)
                .due("left(12)", 0).due("left(13)", NONE);
        }
        EDGES.of(TELLINGS).refuses("span(0, 7, 6)", NONE).due("span(0, 6, 7)", 0).refuses("same(0, 0)", NONE).due("same(0, 1)", 1)
            .refuses("behind(0, 1, 10000)", NONE).due("behind(0, 1, 0)", 2).due("count(6)", 3);
    }

    private static void knownBy() {
        Script script = EDGES.of(TELLINGS);
        for (int i = 0; i < 12; i++) {
            script.given("span(0, " + 10 * i + ", 9999)");
            for (int n = 0; n <= i + 1; n++) {
                script.due("when(0, " + n + ", 0)", n == 0 ? 0 : 10 * (n - 1)).due("left(" + n + ")", 0);
            }
        }
        script = EDGES.of(TELLINGS).given("span(0, 0, 10)", "span(0, 20, 30)", "span(0, 25, 30)", "span(0, 5, 10)");
        // What comes later does not change what was known.
        script.due("left(0)", 0).due("left(1)", 0).due("left(2)", 2).due("left(3)", 1).due("left(4)", 9).due("when(0, 0, 1)", 9999);
        script.due("when(0, 1, 1)", 10).due("when(0, 2, 1)", 10).due("when(0, 3, 0)", 25).due("when(0, 4, 0)", 25).due("when(0, 4, 1)", 30);
    }

    private static void threeTellings(Script script) {
        script.given("span(0, 7, 7)", "span(0, 8, 8)", "span(9, 7, 7)");
    }

    private static void leftArguments() {
        EDGES.range(LEFT, Edges::nothing, "left($)", 0, 0, 0, NONE);
        Script script = EDGES.of(LEFT);
        threeTellings(script);
        for (String n : new String[] {"-1", "4", "12", "13", "MIN", "MAX"}) {
            script.refuses("left(" + n + ")", NONE);
        }
        script.due("left(0)", 0).due("left(1)", 0).due("left(2)", 2).due("left(3)", 2);
        for (int i = 3; i < 12; i++) {
            script.due("left(" + (i + 1) + ")", NONE).given("span(0, 7, 7)").due("left(" + (i + 1) + ")", 2);
        }
        script.refuses("left(13)", NONE);
    }

    private static void whenArguments() {
        EDGES.range(WHEN, EdgesOfTellingsTests::threeTellings, "when($, 3, 0)", 0, 9, 7, NONE);
        EDGES.range(WHEN, EdgesOfTellingsTests::threeTellings, "when($, 3, 1)", 0, 9, 7, NONE);
        EDGES.range(WHEN, EdgesOfTellingsTests::threeTellings, "when(0, 3, $)", 0, 1, 7, NONE);
        EDGES.range(WHEN, EdgesOfTellingsTests::threeTellings, "when(5, $, 1)", 0, 3, 9999, NONE);
        EDGES.range(WHEN, EdgesOfTellingsTests::threeTellings, "when(5, $, 0)", 0, 3, 0, NONE);
        EDGES.range(WHEN, Edges::nothing, "when(5, $, 1)", 0, 0, 9999, NONE);
        Script script = EDGES.of(WHEN);
        threeTellings(script);
        script.due("when(0, 0, 0)", 0).due("when(0, 0, 1)", 9999).due("when(0, 1, 0)", 7).due("when(9, 2, 1)", 9999).due("when(9, 3, 1)", 7);
    }

    private static void calendarEnds() {
        EDGES.of(AGREES).given("behind(1, 0, 5000)", "behind(2, 1, 4999)").due("left(2)", 0).due("when(2, 2, 0)", 9999).due("when(0, 2, 1)", 0)
            .given("behind(3, 2, 0)").due("left(3)", 0).given("behind(4, 3, 1)").due("left(4)", 8).given("behind(0, 5, 1)").due("left(5)", 2);
        EDGES.of(AGREES).given("behind(1, 0, 5000)", "behind(2, 1, 5000)").due("left(2)", 2);
        EDGES.of(AGREES).given("behind(0, 1, 1)", "span(1, 9999, 9999)").due("left(2)", 2).given("span(1, 9998, 9999)").due("left(3)", 2)
            .due("when(0, 3, 0)", 9999).due("when(1, 3, 1)", 9998);
        EDGES.of(AGREES).given("behind(0, 1, 1)", "span(0, 0, 0)").due("left(2)", 2).given("span(0, 0, 1)").due("left(3)", 2).due("when(1, 3, 1)", 0);
    }

    private static void chains() {
        int[][] steps = {{1111, 0}, {1112, 1}};
        for (int[] step : steps) {
            Script up = EDGES.of(AGREES);
            Script down = EDGES.of(AGREES);
            for (int event = 0; event < 9; event++) {
                up.given("behind(" + (event + 1) + ", " + event + ", " + step[0] + ")");
                down.given("behind(" + (8 - event) + ", " + (9 - event) + ", " + step[0] + ")");
            }
            up.due("left(8)", 0).due("left(9)", step[1] << 8);
            down.due("left(8)", 0).due("left(9)", step[1] << 8);
        }
        // Told from the far end on, each day is pushed by one telling a time.
        Script script = EDGES.of(AGREES);
        for (int event = 9; event > 0; event--) {
            script.given("behind(" + event + ", " + (event - 1) + ", 1110)");
        }
        script.given("span(0, 9, 9999)").due("left(10)", 0).due("when(9, 10, 0)", 9999).due("when(0, 10, 1)", 9).given("span(0, 10, 10)").due("left(11)", 1024);
        script = EDGES.of(AGREES);
        for (int event = 0; event < 9; event++) {
            script.given("same(" + event + ", " + (event + 1) + ")");
        }
        script.given("span(9, 70, 80)", "span(0, 80, 90)").due("left(11)", 0);
        for (int event = 0; event < 10; event++) {
            script.due("when(" + event + ", 11, 0)", 80).due("when(" + event + ", 11, 1)", 80).due("when(" + event + ", 10, 0)", 70);
        }
        script.given("span(5, 81, 81)").due("left(12)", 2048);
    }

    private static void rings() {
        for (int length = 2; length <= 10; length++) {
            for (int sum = -1; sum <= 1; sum++) {
                Script script = EDGES.of(AGREES);
                for (int event = 1; event < length; event++) {
                    script.given("behind(" + event + ", " + (event - 1) + ", 5)");
                }
                script.given("behind(0, " + (length - 1) + ", " + (sum - 5 * (length - 1)) + ")");
                script.due("left(" + (length - 1) + ")", 0).due("left(" + length + ")", sum > 0 ? 1 << length - 1 : 0);
            }
        }
    }

    private static void oneOfTwo() {
        EDGES.of(FEWEST).given("span(0, 0, 4)", "span(0, 5, 9)").due("left(2)", 2).due("when(0, 2, 0)", 0).due("when(0, 2, 1)", 4);
        EDGES.of(FEWEST).given("span(0, 0, 5)", "span(0, 5, 9)").due("left(2)", 0).due("when(0, 2, 0)", 5).due("when(0, 2, 1)", 5);
        EDGES.of(FEWEST).given("same(0, 1)", "behind(0, 1, 1)").due("left(2)", 2);
        EDGES.of(FEWEST).given("behind(0, 1, 1)", "same(0, 1)").due("left(2)", 2);
        EDGES.of(FEWEST).given("behind(0, 1, 1)", "behind(1, 0, 0)").due("left(2)", 2);
        EDGES.of(FEWEST).given("behind(0, 1, 1)", "behind(1, 0, -1)").due("left(2)", 0);
    }

    private static void fewestFirst() {
        // The first one alone goes, though it is the earliest, where two would have to go for it.
        EDGES.of(FEWEST).given("span(0, 0, 4)", "span(0, 5, 9)", "span(0, 6, 9)").due("left(3)", 1).given("span(0, 0, 3)").due("left(4)", 9)
            .given("span(0, 7, 9)").due("left(5)", 9).given("span(0, 1, 2)", "span(0, 2, 2)").due("left(7)", 22);
        // Each telling may be the one that goes.
        for (int out = 0; out < 12; out++) {
            Script script = EDGES.of(FEWEST);
            for (int i = 0; i < 12; i++) {
                script.given(i == out ? "span(3, 9, 9)" : "span(3, 10, 11)");
            }
            script.due("left(12)", 1 << out).due("when(3, 12, 0)", 10).due("when(3, 12, 1)", 11);
        }
    }

    private static void greatestNumberFirst() {
        // 0 quarrels with 1 and 2, and so does 3: out go 0 and 3, or 1 and 2; of these 3 is the greatest.
        EDGES.of(FEWEST).given("behind(0, 1, 1)", "behind(1, 0, 0)", "same(0, 1)", "behind(0, 1, 2)").due("left(2)", 2).due("left(3)", 1).due("left(4)", 9)
            .due("when(0, 4, 0)", 0).due("when(1, 4, 1)", 9999);
        // 0 and 1 quarrel, and 2 and 3: of both the later.
        EDGES.of(FEWEST).given("span(0, 1, 1)", "span(0, 2, 2)", "span(1, 1, 1)", "span(1, 2, 2)").due("left(4)", 10).due("left(3)", 2);
        // 0 and 3, 1 and 2.
        EDGES.of(FEWEST).given("span(0, 1, 1)", "span(1, 1, 1)", "span(1, 2, 2)", "span(0, 2, 2)").due("left(4)", 12).due("left(3)", 4);
        // A ring of which any may go: the last, wherever it was told.
        EDGES.of(FEWEST).given("behind(1, 0, 1)", "span(5, 1, 1)", "behind(2, 1, 1)", "behind(0, 2, -1)", "span(6, 1, 1)").due("left(5)", 8);
        // Six pairs: of each the later.
        Script script = EDGES.of(FEWEST);
        for (int i = 0; i < 12; i++) {
            script.given("span(" + i / 2 + ", " + i + ", " + i + ")");
        }
        script.due("left(12)", 0b1010_1010_1010).due("left(11)", 0b0010_1010_1010);
        script = EDGES.of(FEWEST);
        for (int i = 0; i < 12; i++) {
            script.given("span(" + i % 6 + ", " + i + ", " + i + ")");
        }
        script.due("left(12)", 0b1111_1100_0000).due("left(6)", 0).due("left(7)", 64);
    }

    /** Half say one day, half another: out go those of whom the last one is, whoever else is with it. */
    private static void twoSidesAsMany() {
        for (int half = 1; half <= 6; half++) {
            int last = 1 << 2 * half - 1;
            for (int side = 0; side < 2 * last; side++) {
                // Of the longest runs every seventh is enough.
                if (Integer.bitCount(side) == half && (half < 6 || side % 7 == 0)) {
                    Script script = EDGES.of(FEWEST);
                    for (int i = 0; i < 2 * half; i++) {
                        script.given((side >> i & 1) == 1 ? "span(4, 30, 35)" : "span(4, 10, 15)");
                    }
                    boolean goes = (side & last) != 0;
                    script.due("left(" + 2 * half + ")", goes ? side : ~side & 2 * last - 1);
                    script.due("when(4, " + 2 * half + ", 0)", goes ? 10 : 30).due("when(4, " + 2 * half + ", 1)", goes ? 15 : 35);
                }
            }
        }
    }

    private static void allButOne() {
        Script script = EDGES.of(FEWEST);
        for (int i = 0; i < 12; i++) {
            script.given("span(0, " + (11 - i) + ", " + (11 - i) + ")").due("left(" + (i + 1) + ")", (1 << i + 1) - 2);
        }
        script.due("when(0, 12, 0)", 11).due("when(0, 12, 1)", 11);
    }

    private static void leftOutDoNotCount() {
        EDGES.of(EARLIEST).given("span(0, 100, 200)", "behind(1, 0, 50)", "span(1, 0, 149)").due("left(3)", 4).due("when(1, 3, 0)", 150)
            .due("when(1, 3, 1)", 9999).due("when(0, 3, 1)", 200).due("when(0, 3, 0)", 100).given("span(1, 0, 150)").due("left(4)", 4)
            .due("when(0, 4, 1)", 100).due("when(1, 4, 1)", 150).given("span(1, 0, 148)", "span(1, 0, 147)").due("left(5)", 2).due("left(6)", 2)
            .due("when(1, 6, 0)", 0).due("when(1, 6, 1)", 147).due("when(0, 6, 1)", 200).due("when(0, 6, 0)", 100);
    }

    private static void freeEvents() {
        Script script = EDGES.of(EARLIEST);
        for (int event = 0; event < 10; event++) {
            script.due("when(" + event + ", 0, 0)", 0).due("when(" + event + ", 0, 1)", 9999);
        }
        script.given("span(4, 5, 6)");
        for (int event = 0; event < 10; event++) {
            script.due("when(" + event + ", 1, 0)", event == 4 ? 5 : 0).due("when(" + event + ", 1, 1)", event == 4 ? 6 : 9999);
        }
    }
}
