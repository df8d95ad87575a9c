/** Each promise by itself: ordinary inputs, the edges that the document names, and wrong inputs. */
public final class PromiseTests {
    private static final int NONE = TapeHouse.NONE;
    private static final int[] FAR = {Integer.MIN_VALUE, -2, Integer.MAX_VALUE};
    private static final Check CHECK = new Check();

    public static void main(String[] args) {
        newObject();
        feedAndBack();
        readAndPlace();
        tokens();
        grammar();
        room();
        names();
        readReplaces();
        persons();
        topics();
        tapes();
        pieces();
        askersAndCopies();
        bound();
        dies();
        takes();
        let();
        expressions();
        variables();
        mask();
        would();
        copiesLag();
        askAndHeard();
        hiddenNames();
        could();
        seconds();
        opens();
        at();
        span();
        behind();
        same();
        left();
        longChains();
        when();
        count();
        CHECK.end();
    }

    private static void due(String call, long got, long want) {
        CHECK.due(call, got, want);
    }

    private static void due(String call, boolean got, boolean want) {
        CHECK.due(call, got, want);
    }

    private static String times(String part, int n) {
        return part.repeat(n);
    }

    /** One speaker, one topic, a tape of 100 seconds of day 50, and a piece that names person 1. */
    private static TapeHouse house() {
        TapeHouse house = new TapeHouse();
        house.person(0, 0, 0, 0);
        house.person(1, 1, 1, 1);
        house.topic(NONE);
        house.tape(0, 50, 100);
        house.piece(0, 0, 10, 0, 1, 15);
        return house;
    }

    private static TapeHouse houseWith(String consent) {
        TapeHouse house = house();
        due("read of " + consent, Check.read(house, 0, consent), 0);
        return house;
    }

    private static void fault(String text, int fault, int place) {
        TapeHouse house = house();
        String call = "read of " + (text.length() > 60 ? text.substring(0, 60) + ".." : text);
        due(call, Check.read(house, 0, text), fault);
        due("place after " + call, house.place(), place);
    }

    private static void newObject() {
        TapeHouse house = new TapeHouse();
        for (int what = 0; what < 8; what++) {
            due("new count(" + what + ")", house.count(what), 0);
        }
        due("new bound", house.count(8), 2);
        due("new place", house.place(), NONE);
        due("new left(0)", house.left(0), 0);
        due("new left(1)", house.left(1), NONE);
        due("new when", house.when(9, 0, 1), 9999);
        due("new read", house.read(0), NONE);
        due("new at", house.at(0, 0), NONE);
        due("new heard", house.heard(0, 0), NONE);
        due("new let", house.let(0, 0, 0, 0), NONE);
        due("NONE", NONE, -1);
    }

    private static void feedAndBack() {
        TapeHouse house = new TapeHouse();
        house.person(0, 0, 0, 0);
        for (int i = 1; i <= 100; i++) {
            due("feed " + i, house.feed(0x20202020, 0x20202020, 0x20202020, 0x20202020, 0x20202020), 20L * i);
        }
        due("feed past 2000", house.feed(1, 2, 3, 4, 5), NONE);
        due("bytes", house.count(7), 2000);
        due("back(0)", house.back(0), 2000);
        due("back(-1)", house.back(-1), NONE);
        due("back(MIN)", house.back(Integer.MIN_VALUE), NONE);
        due("back(2001)", house.back(2001), NONE);
        due("back(19)", house.back(19), 1981);
        due("feed past 2000 by one", house.feed(1, 2, 3, 4, 5), NONE);
        due("back(1)", house.back(1), 1980);
        due("feed to 2000", house.feed(0x20202020, 0x20202020, 0x20202020, 0x20202020, 0x2020203B), 2000);
        due("read of blanks and ;", house.read(0), 1);
        due("its place: what was fed last stands last", house.place(), 1999);
        due("bytes after", house.count(7), 0);
        due("back of nothing", house.back(1), NONE);
        house.feed(1, 2, 3, 4, 5);
        due("back of all", house.back(20), 0);
        // The highest byte of the first number comes first.
        due("feed let;", house.feed(0x6C65743B, 0x20202020, 0x20202020, 0x20202020, 0x20202020), 20);
        due("read let;", house.read(0), 0);
    }

    private static void readAndPlace() {
        TapeHouse house = house();
        Check.feed(house, "let");
        due("read(-1)", house.read(-1), NONE);
        due("read(2)", house.read(2), NONE);
        due("bytes stay", house.count(7), 3);
        due("place still", house.place(), NONE);
        due("read(0)", house.read(0), 1);
        due("bytes went", house.count(7), 0);
        due("place", house.place(), 3);
        due("read(2)", house.read(2), NONE);
        due("a read that was NONE leaves the place", house.place(), 3);
        due("read of nothing", house.read(1), 0);
        due("place without fault", house.place(), NONE);
        due("read of blanks", Check.read(house, 0, " \t\n\r"), 0);
    }

    private static void tokens() {
        fault("let\t;\nlet\r; let;let ;", 0, NONE);
        fault("\u000blet;", 1, 0);
        fault("let;\u0000", 1, 4);
        fault("let;\u00ff", 1, 4);
        fault("Let;", 1, 0);
        fault("abcdefgh;", 1, 0);
        fault("let abcdefghi;", 1, 4);
        fault("letif", 1, 0);
        fault("lets;", 1, 0);
        fault("letz;", 1, 0);
        fault("leta;", 1, 0);
        fault("let{", 1, 3);
        fault("let`", 1, 3);
        fault("let if 1/2", 1, 8);
        fault("let if 1:2", 1, 8);
        fault("le;", 1, 0);
        fault("let if 9999<=0001;", 0, NONE);
        fault("let if 10000<1;", 1, 7);
        fault("let if 00000<1;", 1, 7);
        fault("let if in0;", 0, NONE);
        fault("let if 1<kind and 2<use;", 0, NONE);
        fault("let if 1<2and 2<use;", 0, NONE);
        fault("let if 1=2;", 1, 8);
        fault("let if 1= =2;", 1, 8);
        fault("let if 1===2;", 1, 10);
        fault("let if 1!2;", 1, 8);
        fault("let if 1!=2;", 0, NONE);
        fault("let if 1< =2;", 1, 10);
        fault("let if 1<==2;", 1, 10);
        fault("let if 1>2;", 1, 8);
        fault("let if 1<2,", 1, 10);
        fault("let if kind<=", 1, 13);
        fault("let if kind<=  ", 1, 15);
        fault("let if kind=", 1, 11);
    }

    private static void grammar() {
        fault(";", 1, 0);
        fault("let", 1, 3);
        fault("let let", 1, 4);
        fault("let 1", 1, 4);
        fault("let if;", 1, 6);
        fault("let if or", 1, 7);
        fault("if", 1, 0);
        fault("let; if", 1, 5);
        fault("let if in", 1, 9);
        fault("let if in kind", 1, 10);
        fault("let if in (", 1, 10);
        fault("let if in 0 == 1;", 1, 12);
        fault("let if in 0 + 1;", 1, 12);
        fault("let if in 0 and in 0 or in 0;", 0, NONE);
        fault("let if in 0 in 0;", 1, 12);
        fault("let if 1;", 1, 8);
        fault("let if 1 and", 1, 9);
        fault("let if 1 < 2 < 3;", 1, 13);
        fault("let if 1 < 2 == 3;", 1, 13);
        fault("let if 1 < 2);", 1, 12);
        fault("let if (1 < 2);", 1, 10);
        fault("let if (1;", 1, 9);
        fault("let if () < 1;", 1, 8);
        fault("let if (1) (2) < 1;", 1, 11);
        fault("let if -1 < 1;", 1, 7);
        fault("let if 1 + - 1 < 1;", 1, 11);
        fault("let if 1 * * 1 < 1;", 1, 11);
        fault("let if 1 - < 1;", 1, 11);
        fault("let if 1 < in 0;", 1, 11);
        fault("let if (in 0) == 1;", 1, 8);
        fault("let if 1 2 < 3;", 1, 9);
        fault("let if own names;", 1, 11);
        fault("let if foo < 3;", 1, 7);
        fault("let if let < 3;", 1, 7);
        fault("let if 1 < 2 and;", 1, 16);
        fault("let if 1 < 2 or or 1 < 2;", 1, 16);
        fault("let if 1 < 2 let;", 1, 13);
        fault("let if 1 < 2", 1, 12);
        fault("let; keep; mask; let if own == 1; keep if dead <= age; mask if names != piece;", 0, NONE);
        fault("let if ((kind)+(use*2))*3-1==(names) and in 0 or age<7 and own!=1;", 0, NONE);
    }

    private static void room() {
        fault(times("let;", 16), 0, NONE);
        fault(times("let;", 17), 2, 64);
        fault(times("let;", 16) + " keep", 2, 65);
        fault(times("let;", 16) + "foo", 1, 64);
        fault(times("let;", 16) + ";", 1, 64);
        fault(times("let;", 16) + "123456", 1, 64);
        fault("let if ((((((1)))))) < 2;", 0, NONE);
        fault("let if (((((((1))))))) < 2;", 2, 13);
        fault("let if (((((((", 2, 13);
        fault("let if ((((((1))))))+((((((1)))))) < ((((((1))))));", 0, NONE);
        fault("let if 1 < ((((((2+(", 2, 19);
        fault("let if ((((((2 (", 1, 15);
        // let if 1 < 1 ; are six tokens, and each +1 is two more.
        String open = "let if 1" + times("+1", 197) + "<1";
        fault(open + ";", 0, NONE);
        fault(open + ";  ", 0, NONE);
        fault(open, 1, open.length());
        fault(open + "+1;", 2, open.length() + 1);
        fault(open + "+;", 1, open.length() + 1);
        fault(open + "+", 1, open.length() + 1);
        fault(open + "+ 12345", 1, open.length() + 2);
        fault(open + ";let;", 2, open.length() + 1);
        fault(open + "; foo", 1, open.length() + 2);
        fault(open + ";?", 1, open.length() + 1);
    }

    private static void names() {
        fault("let if in 0;", 0, NONE);
        fault("let if in 0 and in 1;", 4, 19);
        fault("let if in 9999 or in 1;", 4, 10);
        fault("let if in 1; let", 1, 16);
        fault("let if in 1;" + times("let;", 16), 2, 72);
        fault("let if in 0000; keep if in 0001;", 4, 27);
        TapeHouse house = house();
        house.topic(0);
        due("read in 1", Check.read(house, 0, "let if in 1;"), 0);
    }

    private static void readReplaces() {
        TapeHouse house = houseWith("let;");
        due("let", house.let(0, 60, 0, 0), 0);
        due("bad read", Check.read(house, 0, "keep; keep"), 1);
        due("let as before", house.let(0, 60, 0, 0), 0);
        due("bad read", Check.read(house, 0, "keep if in 5;"), 4);
        due("let as before", house.let(0, 60, 0, 0), 0);
        due("bad read", Check.read(house, 0, times("keep;", 17)), 2);
        due("let as before", house.let(0, 60, 0, 0), 0);
        due("another's", Check.read(house, 1, "keep;"), 0);
        due("let as before", house.let(0, 60, 0, 0), 0);
        due("mended read", Check.read(house, 0, "mask; let if 1 < 2;"), 0);
        due("let anew", house.let(0, 60, 0, 0), 1);
        due("empty read", house.read(0), 0);
        due("without rules", house.let(0, 60, 0, 0), -3);
        // Nothing of the texts ahead is left, of bad ones neither.
        String[] ahead = {"let if ((((1+2*(3", "keep if 1 < 2 and 7 == 7 or", "mask if 2*2 < 3 + age;", "let if 5 < 1 + (2 - "};
        for (String text : ahead) {
            Check.read(house, 0, text);
            due("read after " + text, Check.read(house, 0, "keep if (1+1)*2 == 5; let if 2+2*2 == 6 and in 0; keep;"), 0);
            due("let after " + text, house.let(0, 60, 0, 0), 1);
            due("read after " + text, Check.read(house, 0, "keep if 1 == 2; keep; let;"), 0);
            due("kept after " + text, house.let(0, 60, 0, 0), -2);
        }
    }

    private static void persons() {
        TapeHouse house = new TapeHouse();
        due("person(4,..)", house.person(4, 0, 0, 0), NONE);
        due("person(.., 4, ..)", house.person(0, 4, 0, 0), NONE);
        due("person(.., -1, .)", house.person(0, 0, -1, 0), NONE);
        due("person(.., MAX)", house.person(0, 0, 0, Integer.MAX_VALUE), NONE);
        due("person(.., -1)", house.person(0, 0, 0, -1), NONE);
        for (int i = 0; i < 12; i++) {
            due("person " + i, house.person(i % 4, 3, 0, i / 4), i);
        }
        due("13th person", house.person(0, 0, 0, 0), NONE);
        due("persons", house.count(0), 12);
        due("read of the last", Check.read(house, 11, "let;"), 0);
    }

    private static void topics() {
        TapeHouse house = new TapeHouse();
        due("topic(0)", house.topic(0), NONE);
        due("topic(-2)", house.topic(-2), NONE);
        due("topic(-1)", house.topic(-1), 0);
        due("topic(1)", house.topic(1), NONE);
        for (int i = 1; i < 12; i++) {
            due("topic(" + (i - 1) + ")", house.topic(i - 1), i);
        }
        due("13th topic", house.topic(0), NONE);
        due("13th topic", house.topic(NONE), NONE);
        due("topics", house.count(1), 12);
    }

    private static void tapes() {
        TapeHouse house = new TapeHouse();
        due("tape without persons", house.tape(0, 0, 1), NONE);
        house.person(0, 0, 0, 0);
        due("no such speaker", house.tape(-1, 0, 1), NONE);
        due("no such speaker", house.tape(1, 0, 1), NONE);
        due("no such day", house.tape(0, -1, 1), NONE);
        due("no such day", house.tape(0, 10000, 1), NONE);
        due("no such length", house.tape(0, 0, 0), NONE);
        due("no such length", house.tape(0, 0, 1000), NONE);
        due("tape", house.tape(0, 0, 1), 0);
        due("tape", house.tape(0, 9999, 999), 1);
        for (int i = 2; i < 6; i++) {
            due("tape " + i, house.tape(0, 5, 5), i);
        }
        due("7th tape", house.tape(0, 5, 5), NONE);
        due("tapes", house.count(2), 6);
    }

    private static void pieces() {
        TapeHouse house = house();
        due("no such tape", house.piece(1, 20, 30, 0, NONE, 0), NONE);
        due("no such tape", house.piece(-1, 20, 30, 0, NONE, 0), NONE);
        due("from below 0", house.piece(0, -1, 0, 0, NONE, 0), NONE);
        for (int far : FAR) {
            due("far tape", house.piece(far, 20, 30, 0, NONE, 0), NONE);
            due("far from", house.piece(0, far, 30, 0, NONE, 0), NONE);
            due("far topic", house.piece(0, 20, 30, far, NONE, 0), NONE);
            due("far person", house.piece(0, 20, 30, 0, far, 0), NONE);
            due("far traits", house.piece(0, 20, 30, 0, 1, far), NONE);
        }
        due("far to", house.piece(0, 20, Integer.MAX_VALUE, 0, NONE, 0), NONE);
        due("overlaps", house.piece(0, 9, 11, 0, NONE, 0), NONE);
        due("overlaps", house.piece(0, 0, 100, 0, NONE, 0), NONE);
        due("overlaps", house.piece(0, 2, 3, 0, NONE, 0), NONE);
        due("none long", house.piece(0, 20, 20, 0, NONE, 0), NONE);
        due("back to front", house.piece(0, 30, 20, 0, NONE, 0), NONE);
        due("past the end", house.piece(0, 90, 101, 0, NONE, 0), NONE);
        due("no such topic", house.piece(0, 20, 30, 1, NONE, 0), NONE);
        due("no such topic", house.piece(0, 20, 30, -1, NONE, 0), NONE);
        due("no such person", house.piece(0, 20, 30, 0, 2, 0), NONE);
        due("no such person", house.piece(0, 20, 30, 0, -2, 0), NONE);
        due("no such traits", house.piece(0, 20, 30, 0, 1, 16), NONE);
        due("no such traits", house.piece(0, 20, 30, 0, 1, -1), NONE);
        due("tells of nobody", house.piece(0, 20, 30, 0, NONE, 1), NONE);
        due("pieces", house.count(3), 1);
        due("tells nothing, up to the end", house.piece(0, 99, 100, 0, 0, 0), 1);
        due("between two", house.piece(0, 10, 99, 0, NONE, 0), 2);
        house.tape(1, 0, 100);
        due("of another tape", house.piece(1, 0, 10, 0, 0, 15), 3);
        for (int i = 4; i < 30; i++) {
            due("piece " + i, house.piece(1, 10 + i, 11 + i, 0, NONE, 0), i);
        }
        due("31st piece", house.piece(1, 80, 90, 0, NONE, 0), NONE);
        due("pieces", house.count(3), 30);
    }

    private static void askersAndCopies() {
        TapeHouse house = new TapeHouse();
        due("asker(-1)", house.asker(-1), NONE);
        due("asker(4)", house.asker(4), NONE);
        for (int i = 0; i < 6; i++) {
            due("asker", house.asker(i % 4), i);
        }
        due("7th asker", house.asker(0), NONE);
        due("askers", house.count(4), 6);
        due("copy(-1)", house.copy(-1), NONE);
        due("copy(401)", house.copy(401), NONE);
        due("copy(0)", house.copy(0), 0);
        due("copy(400)", house.copy(400), 1);
        due("copy", house.copy(1), 2);
        due("copy", house.copy(1), 3);
        due("5th copy", house.copy(1), NONE);
        due("copies", house.count(5), 4);
    }

    private static void bound() {
        TapeHouse house = new TapeHouse();
        due("bound(0)", house.bound(0), false);
        due("bound(13)", house.bound(13), false);
        due("the bound", house.count(8), 2);
        due("bound(12)", house.bound(12), true);
        due("the bound", house.count(8), 12);
        due("bound(1)", house.bound(1), true);
        due("bound(-1)", house.bound(-1), false);
        due("the bound", house.count(8), 1);
    }

    private static void dies() {
        TapeHouse house = houseWith("let if dead == 0;");
        due("dies of nobody", house.dies(2, 5), false);
        due("dies of nobody", house.dies(-1, 5), false);
        due("no such day", house.dies(0, -1), false);
        due("no such day", house.dies(0, 10000), false);
        due("dies", house.dies(0, 70), true);
        due("dies again", house.dies(0, 60), false);
        due("the first counts", house.let(0, 70, 0, 0), 0);
        due("the second does not", house.let(0, 60, 0, 0), -3);
        due("another dies", house.dies(1, 0), true);
        due("the last day", houseWith("").dies(0, 9999), true);
    }

    private static void takes() {
        TapeHouse house = houseWith("let;");
        house.asker(0);
        due("takes of none", house.takes(1, 5), false);
        due("takes of none", house.takes(-1, 5), false);
        due("no such day", house.takes(0, -1), false);
        due("no such day", house.takes(0, 10000), false);
        due("not taken", house.would(0, 0, NONE, 9999, 0), 2);
        due("takes", house.takes(0, 70), true);
        due("takes again", house.takes(0, 60), false);
        due("the day ahead", house.would(0, 0, NONE, 69, 0), 2);
        due("that day", house.would(0, 0, NONE, 70, 0), 0);
        due("later", house.would(0, 0, NONE, 9999, 0), 0);
        due("let is not touched", house.let(0, 70, 0, 0), 0);
    }

    private static void let() {
        TapeHouse house = houseWith("mask; keep if kind == 1; let if use == 2; keep if use == 3; let if use < 2 and kind != 3;");
        due("kept", house.let(0, 60, 1, 2), -2);
        due("first let", house.let(0, 60, 0, 2), 2);
        due("kept later", house.let(0, 60, 0, 3), -2);
        due("last let", house.let(0, 60, 0, 1), 4);
        due("none", house.let(0, 60, 3, 1), -3);
        due("day 0", house.let(0, 0, 0, 1), 4);
        due("day 9999", house.let(0, 9999, 0, 1), 4);
        due("no such piece", house.let(1, 60, 0, 1), NONE);
        due("no such piece", house.let(-1, 60, 0, 1), NONE);
        due("no such day", house.let(0, -1, 0, 1), NONE);
        due("no such day", house.let(0, 10000, 0, 1), NONE);
        due("no such kind", house.let(0, 60, 4, 1), NONE);
        due("no such kind", house.let(0, 60, -1, 1), NONE);
        due("no such use", house.let(0, 60, 0, 4), NONE);
        due("no such use", house.let(0, 60, 0, -1), NONE);
        due("only masks", houseWith("mask;").let(0, 60, 0, 0), -3);
        String many = times("let if in 0 and 2 == 1;", 15);
        due("the 16th rule", houseWith(many + "let if in 0;").let(0, 60, 0, 0), 15);
        due("the 16th rule", houseWith(many + "let if 2 == 1;").let(0, 60, 0, 0), -3);
    }

    private static void holds(String condition, boolean want) {
        due(condition, houseWith("let if " + condition + ";").let(0, 60, 1, 2) == 0, want);
    }

    private static void expressions() {
        holds("2 + 3 * 4 == 14", true);
        holds("(2 + 3) * 4 == 20", true);
        holds("10 - 3 - 2 == 5", true);
        holds("10 - (3 - 2) == 9", true);
        holds("10 - 3 + 2 == 9", true);
        holds("10 - 2 * 3 * 1 - 1 == 3", true);
        holds("2 * 3 + 4 * 5 - 6 == 20", true);
        holds("1 - 2 < 0", true);
        holds("0 <= 0", true);
        holds("0 < 0", false);
        holds("1 != 1", false);
        holds("1 != 2", true);
        holds("2 <= 1", false);
        holds("0007 == 7", true);
        // Ints of 32 bits wrap, as Java's own do.
        holds("9999*9999*9999 < 0", 9999 * 9999 * 9999 < 0);
        holds("8192*8192*32 == 8192*8192*16*(0-2)", true);
        holds("8192*8192*32 - 1 < 0", false);
        holds("8192*8192*32 < 0", true);
        holds("8192*8192*64 == 0", true);
        holds("1 == 2 and 1 == 1 or 1 == 1", true);
        holds("1 == 1 or 1 == 1 and 1 == 2", true);
        holds("1 == 2 or 1 == 1 and 1 == 2", false);
        holds("1 == 2 or 1 == 1 and 2 == 2", true);
        holds("1 == 2 and 1 == 1 or 1 == 2", false);
        holds("1+2*(1+2*(1+2*(1+2*(1+2*(1+2*(1+2)))))) == 255", true);
        holds("0 == 1-1*(1-0*(1-1*(1-0*(1-1*(1-1*(5-4))))))", true);
        // As many literals as there is room for.
        TapeHouse house = houseWith("let if in 0" + times(" and in 0", 131) + ";");
        due("132 literals", house.let(0, 60, 0, 0), 0);
        due("131 literals, the last wrong", houseWith("let if in 0" + times(" and in 0", 129) + " and 1==2;").let(0, 60, 0, 0), -3);
        due("99 literals, the last right", houseWith("let if 2==1" + times(" or 2==1", 97) + " or in 0;").let(0, 60, 0, 0), 0);
    }

    private static void variables() {
        holds("kind == 1 and use == 2 and age == 10 and dead == 0-1 and piece == 0 and names == 1 and own == 0", true);
        TapeHouse house = houseWith("let if 1 < 0; let if own == 1; let if names == 0-1; let if age < 0; let if dead < 0;");
        due("age below 0", house.let(0, 49, 0, 0), 3);
        due("age 0", house.let(0, 50, 0, 0), 4);
        house = house();
        house.topic(0);
        house.topic(1);
        house.topic(NONE);
        house.piece(0, 10, 20, 1, 0, 1);
        house.piece(0, 20, 30, 2, NONE, 0);
        house.piece(0, 30, 40, 3, NONE, 0);
        due("read", Check.read(house, 0, "let if piece == 0; let if in 2; let if own == 1 and in 1 and in 0; let if names == 0-1 and in 3;"), 0);
        due("piece 0", house.let(0, 60, 0, 0), 0);
        due("piece 1", house.let(1, 60, 0, 0), 2);
        due("piece 2", house.let(2, 60, 0, 0), 1);
        due("piece 3", house.let(3, 60, 0, 0), 3);
        due("read", Check.read(house, 0, "let if in 1; keep if in 0; let if in 3 and in 1; keep if in 3;"), 0);
        due("topic 0", house.let(0, 60, 0, 0), -2);
        due("topic 1", house.let(1, 60, 0, 0), 0);
        due("topic 2", house.let(2, 60, 0, 0), 0);
        due("topic 3", house.let(3, 60, 0, 0), -2);
        house = houseWith("let if dead == 0; let if dead == 1; let if dead == 0-1; let;");
        due("not told", house.let(0, 99, 0, 0), 2);
        house.dies(1, 10);
        due("another's death", house.let(0, 99, 0, 0), 2);
        house.dies(0, 99);
        due("not yet", house.let(0, 98, 0, 0), 2);
        due("that day", house.let(0, 99, 0, 0), 0);
        due("a day later", house.let(0, 100, 0, 0), 1);
        due("later", house.let(0, 101, 0, 0), 3);
    }

    private static void mask() {
        TapeHouse house = houseWith("let; mask if kind == 1; mask if use == 2; mask if age < 0;");
        house.piece(0, 10, 20, 0, NONE, 0);
        due("first", house.mask(0, 60, 1, 2), 1);
        due("second", house.mask(0, 60, 0, 2), 2);
        due("third", house.mask(0, 49, 0, 0), 3);
        due("none", house.mask(0, 60, 0, 0), NONE);
        due("names nobody", house.mask(1, 60, 1, 2), NONE);
        due("no such piece", house.mask(2, 60, 1, 2), NONE);
        due("no such day", house.mask(0, 10000, 1, 2), NONE);
        due("no such day", house.mask(0, -1, 1, 2), NONE);
        due("no such kind", house.mask(0, 60, 4, 2), NONE);
        due("no such use", house.mask(0, 60, 1, 4), NONE);
        due("though kept", houseWith("keep; mask;").mask(0, 60, 0, 0), 1);
        due("ahead of others", houseWith("mask if in 0; mask;").mask(0, 60, 0, 0), 0);
    }

    private static void would() {
        TapeHouse house = houseWith("let if use != 3; mask if kind == 1;");
        house.asker(0);
        house.asker(1);
        house.copy(5);
        due("with its name", house.would(0, 0, NONE, 60, 0), 2);
        due("hidden", house.would(1, 0, NONE, 60, 0), 4);
        due("kept", house.would(1, 0, NONE, 60, 3), 1);
        due("at a copy", house.would(0, 0, 0, 60, 0), 2);
        due("nothing is heard", house.heard(0, 0), 0);
        house.bound(1);
        due("masked", house.would(1, 0, NONE, 60, 0), 3);
        house.takes(0, 60);
        due("taken ahead of kept", house.would(1, 0, NONE, 60, 3), 0);
        due("no such asker", house.would(2, 0, NONE, 60, 0), NONE);
        due("no such asker", house.would(-1, 0, NONE, 60, 0), NONE);
        due("no such piece", house.would(0, 1, NONE, 60, 0), NONE);
        due("no such copy", house.would(0, 0, 1, 60, 0), NONE);
        due("no such copy", house.would(0, 0, -2, 60, 0), NONE);
        due("no such day", house.would(0, 0, NONE, -1, 0), NONE);
        due("no such day", house.would(0, 0, NONE, 10000, 0), NONE);
        due("no such use", house.would(0, 0, NONE, 60, 4), NONE);
        due("no such use", house.would(0, 0, NONE, 60, -1), NONE);
        due("no consent", house().would(0, 0, NONE, 60, 0), NONE);
    }

    private static void copiesLag() {
        TapeHouse house = houseWith("let;");
        house.asker(0);
        house.copy(0);
        house.copy(400);
        house.takes(0, 9600);
        due("no lag", house.would(0, 0, 0, 9600, 0), 0);
        due("lags", house.would(0, 0, 1, 9999, 0), 2);
        due("the house", house.would(0, 0, NONE, 9599, 0), 2);
        house.piece(0, 10, 20, 0, NONE, 0);
        house.takes(1, 9599);
        due("lags up to that day", house.would(0, 1, 1, 9999, 0), 0);
        due("lags", house.would(0, 1, 1, 9998, 0), 2);
    }

    private static void askAndHeard() {
        TapeHouse house = houseWith("keep if use == 3; let; mask if use == 1;");
        house.bound(1);
        house.asker(0);
        house.asker(0);
        due("kept", house.ask(0, 0, NONE, 60, 3), 1);
        due("not heard", house.heard(0, 0), 0);
        due("masked", house.ask(0, 0, NONE, 60, 1), 3);
        due("heard masked", house.heard(0, 0), 3);
        due("with its name", house.ask(0, 0, NONE, 60, 0), 2);
        due("heard with its name", house.heard(0, 0), 2);
        due("masked", house.ask(0, 0, NONE, 60, 1), 3);
        due("stays", house.heard(0, 0), 2);
        due("the other asker", house.heard(1, 0), 0);
        house.takes(0, 60);
        due("taken", house.ask(1, 0, NONE, 60, 0), 0);
        due("not heard", house.heard(1, 0), 0);
        due("taken", house.ask(0, 0, NONE, 60, 0), 0);
        due("heard for ever", house.heard(0, 0), 2);
        due("no such asker", house.ask(2, 0, NONE, 60, 0), NONE);
        due("no such piece", house.ask(0, 1, NONE, 60, 0), NONE);
        due("no such copy", house.ask(0, 0, 0, 60, 0), NONE);
        due("no such day", house.ask(0, 0, NONE, 10000, 0), NONE);
        due("no such use", house.ask(0, 0, NONE, 60, 4), NONE);
        due("no such asker", house.heard(2, 0), NONE);
        due("no such asker", house.heard(-1, 0), NONE);
        due("no such piece", house.heard(0, 1), NONE);
        due("no such piece", house.heard(0, -1), NONE);
    }

    /** Four persons; of person 1 a piece tells each trait, and one tells none. */
    private static TapeHouse town() {
        TapeHouse house = new TapeHouse();
        house.person(1, 2, 3, 0);
        house.person(1, 2, 3, 1);
        house.person(0, 2, 0, 1);
        house.person(1, 0, 0, 1);
        house.topic(NONE);
        house.tape(3, 0, 900);
        for (int trait = 0; trait < 4; trait++) {
            house.piece(0, trait * 10, trait * 10 + 10, 0, 1, 1 << trait);
        }
        house.piece(0, 40, 50, 0, 1, 0);
        house.piece(0, 50, 60, 0, 0, 8);
        house.asker(0);
        house.asker(1);
        Check.read(house, 3, "let; mask if kind == 0 and use == 0;");
        return house;
    }

    private static void hiddenNames() {
        TapeHouse house = town();
        due("could at first", house.could(0, 1), 4);
        due("first trait", house.ask(0, 0, NONE, 9, 0), 3);
        due("could", house.could(0, 1), 3);
        due("third trait", house.ask(0, 2, NONE, 9, 0), 3);
        due("could", house.could(0, 1), 2);
        due("fourth trait would name it", house.ask(0, 3, NONE, 9, 0), 4);
        due("not heard", house.heard(0, 3), 0);
        due("could", house.could(0, 1), 2);
        due("one that tells nothing", house.ask(0, 4, NONE, 9, 0), 3);
        house.bound(3);
        due("what was heard counts by the new bound", house.would(0, 4, NONE, 9, 0), 4);
        due("again what it has heard", house.ask(0, 0, NONE, 9, 0), 4);
        due("heard for ever", house.heard(0, 0), 3);
        house.bound(2);
        due("of another person, who is one alone", house.ask(0, 5, NONE, 9, 0), 4);
        due("with its name", house.ask(0, 4, NONE, 9, 1), 2);
        due("now nothing is hidden", house.ask(0, 3, NONE, 9, 0), 3);
        due("could", house.could(0, 1), 1);
        due("but of the other", house.ask(0, 5, NONE, 9, 0), 4);
        due("for the other asker no mask", house.ask(1, 5, NONE, 9, 0), 2);
        // A town that grows hides better.
        house = town();
        house.ask(0, 0, NONE, 9, 0);
        house.ask(0, 2, NONE, 9, 0);
        due("hidden", house.would(0, 3, NONE, 9, 0), 4);
        house.person(1, 3, 3, 1);
        due("masked", house.would(0, 3, NONE, 9, 0), 3);
    }

    private static void could() {
        TapeHouse house = town();
        due("all", house.could(0, 0), 4);
        house.ask(0, 1, NONE, 9, 0);
        due("second trait", house.could(0, 1), 3);
        due("not of the other", house.could(0, 0), 4);
        due("not of the other asker", house.could(1, 1), 4);
        house.person(0, 2, 0, 0);
        due("one more", house.could(0, 1), 4);
        house.ask(0, 1, NONE, 9, 2);
        due("with its name", house.could(0, 1), 1);
        house.ask(1, 0, NONE, 9, 0);
        due("by the first piece", house.could(1, 1), 1);
        house.ask(1, 5, NONE, 9, 0);
        due("by the last piece", house.could(1, 0), 1);
        due("no such asker", house.could(2, 1), NONE);
        due("no such asker", house.could(-1, 1), NONE);
        due("no such person", house.could(0, 5), NONE);
        due("no such person", house.could(0, -1), NONE);
    }

    private static void seconds() {
        TapeHouse house = houseWith("let; mask if kind == 1;");
        house.bound(1);
        house.topic(0);
        house.topic(NONE);
        house.piece(0, 20, 25, 1, NONE, 0);
        house.piece(0, 30, 33, 2, 1, 0);
        house.asker(0);
        house.asker(1);
        due("all", house.seconds(0, NONE), 15);
        due("all", house.seconds(1, NONE), 5);
        due("all", house.seconds(2, NONE), 3);
        due("none heard", house.seconds(0, 0), 0);
        house.ask(0, 1, NONE, 60, 0);
        due("heard", house.seconds(0, 0), 5);
        due("heard", house.seconds(1, 0), 5);
        due("heard", house.seconds(2, 0), 0);
        house.ask(1, 2, NONE, 60, 0);
        house.ask(1, 2, NONE, 60, 0);
        due("heard masked", house.seconds(2, 1), 3);
        house.takes(2, 0);
        due("heard for ever", house.seconds(2, 1), 3);
        due("no such topic", house.seconds(3, NONE), NONE);
        due("no such topic", house.seconds(-1, NONE), NONE);
        due("no such asker", house.seconds(0, 2), NONE);
        due("no such asker", house.seconds(0, -2), NONE);
    }

    private static void opens() {
        TapeHouse house = houseWith("keep if kind == 1; keep if age < 100 and use == 0; let if dead == 7 or use < 2;");
        due("opens", house.opens(0, 0, 0, 0), 150);
        due("opens", house.opens(0, 150, 0, 0), 150);
        due("opens", house.opens(0, 9999, 0, 0), 9999);
        due("opens at once", house.opens(0, 0, 0, 1), 0);
        due("never", house.opens(0, 0, 1, 1), NONE);
        due("never", house.opens(0, 0, 0, 2), NONE);
        house.dies(0, 9992);
        due("the last day", house.opens(0, 0, 0, 2), 9999);
        due("of one day alone", houseWith("let if age == 20;").opens(0, 71, 0, 0), NONE);
        due("of one day alone", houseWith("let if age == 20;").opens(0, 70, 0, 0), 70);
        due("a day that wraps", houseWith("let if 8192*8192*16*2*(age-1) == 0-8192*8192*16*2 and age*age*age==27;").opens(0, 0, 0, 0), NONE);
        due("of no rule", houseWith("").opens(0, 0, 0, 0), NONE);
        due("of a mask rule", houseWith("mask if age < 3;").opens(0, 0, 0, 0), NONE);
        due("of a kept day in between", houseWith("keep if age < 1 and 0-3 < age; let;").opens(0, 48, 0, 0), 51);
        due("taken back does not count", house.takes(0, 0), true);
        due("taken back does not count", house.opens(0, 0, 0, 0), 150);
        due("no such piece", house.opens(1, 0, 0, 0), NONE);
        due("no such day", house.opens(0, -1, 0, 0), NONE);
        due("no such day", house.opens(0, 10000, 0, 0), NONE);
        due("no such kind", house.opens(0, 0, 4, 0), NONE);
        due("no such use", house.opens(0, 0, 0, 4), NONE);
    }

    private static void at() {
        TapeHouse house = house();
        house.tape(1, 0, 50);
        house.piece(1, 5, 50, 0, NONE, 0);
        due("at", house.at(0, 0), 0);
        due("at", house.at(0, 9), 0);
        due("at", house.at(0, 10), NONE);
        due("at", house.at(1, 4), NONE);
        due("at", house.at(1, 5), 1);
        due("at", house.at(1, 49), 1);
        due("past the end", house.at(1, 50), NONE);
        due("no such second", house.at(1, -1), NONE);
        due("no such tape", house.at(2, 0), NONE);
        due("no such tape", house.at(-1, 0), NONE);
    }

    private static void span() {
        TapeHouse house = new TapeHouse();
        due("no such event", house.span(-1, 0, 1), NONE);
        due("no such event", house.span(10, 0, 1), NONE);
        due("a below 0", house.span(0, -1, 1), NONE);
        due("b above 9999", house.span(0, 0, 10000), NONE);
        due("a above b", house.span(0, 2, 1), NONE);
        due("tellings", house.count(6), 0);
        for (int i = 0; i < 12; i++) {
            due("span", house.span(9, 0, 9999), i);
        }
        due("13th", house.span(9, 0, 9999), NONE);
        due("13th", house.behind(9, 0, 9999), NONE);
        due("13th", house.same(9, 0), NONE);
        due("tellings", house.count(6), 12);
    }

    private static void behind() {
        TapeHouse house = new TapeHouse();
        due("no such event", house.behind(-1, 0, 1), NONE);
        due("no such event", house.behind(0, 10, 1), NONE);
        due("one and the same", house.behind(3, 3, 0), NONE);
        due("no such d", house.behind(3, 4, 10000), NONE);
        due("no such d", house.behind(3, 4, -10000), NONE);
        due("behind", house.behind(3, 4, -9999), 0);
        due("says nothing", house.when(3, 1, 0), 0);
        due("says nothing", house.when(4, 1, 1), 9999);
        due("behind", house.behind(3, 4, 9999), 1);
        due("earliest", house.when(3, 2, 0), 9999);
        due("latest", house.when(4, 2, 1), 0);
        due("known by one", house.when(4, 1, 1), 9999);
    }

    private static void same() {
        TapeHouse house = new TapeHouse();
        due("no such event", house.same(-1, 0), NONE);
        due("no such event", house.same(0, 10), NONE);
        due("one and the same", house.same(3, 3), NONE);
        due("same", house.same(3, 4), 0);
        due("same", house.same(5, 4), 1);
        house.span(3, 10, 20);
        house.span(5, 15, 30);
        due("earliest", house.when(4, 4, 0), 15);
        due("latest", house.when(4, 4, 1), 20);
        house.behind(4, 3, 1);
        due("left out", house.left(5), 16);
    }

    private static void left() {
        TapeHouse house = new TapeHouse();
        house.span(0, 0, 10);
        house.span(0, 20, 30);
        house.span(0, 5, 25);
        due("the later one", house.left(2), 2);
        due("the later one still", house.left(3), 2);
        house.span(0, 25, 25);
        due("the one that most quarrel with", house.left(4), 1);
        due("as known by three", house.left(3), 2);
        due("no such n", house.left(5), NONE);
        due("no such n", house.left(-1), NONE);
        // A ring of three: any of them would do, the latest goes.
        house = new TapeHouse();
        house.behind(1, 0, 1);
        house.behind(2, 1, 1);
        house.behind(0, 2, -1);
        due("a ring", house.left(3), 4);
        house.behind(0, 2, -2);
        due("a ring that holds", house.left(4), 4);
        // Out of two pairs that quarrel.
        house = new TapeHouse();
        house.same(0, 1);
        house.behind(0, 1, 1);
        house.span(2, 0, 0);
        house.behind(2, 3, 1);
        due("two pairs", house.left(4), 10);
        house.span(3, 9999, 9999);
        due("two pairs", house.left(5), 10);
        house.behind(4, 3, 1);
        due("three", house.left(6), 42);
        // No span, but the calendar's end.
        house = new TapeHouse();
        house.behind(1, 0, 5000);
        house.behind(2, 1, 4999);
        due("the calendar holds them", house.left(2), 0);
        house.behind(3, 2, 1);
        due("and not them", house.left(3), 4);
        // The longest chain of all.
        house = new TapeHouse();
        for (int event = 8; event >= 0; event--) {
            house.behind(event, event + 1, 1111);
        }
        due("a chain", house.left(9), 0);
        due("its end", house.when(0, 9, 0), 9999);
        due("its start", house.when(9, 9, 1), 0);
        house.span(9, 1, 1);
        due("pushed off the end", house.left(10), 512);
        house.same(0, 9);
        due("a link of the chain alone mends both", house.left(11), 256);
    }

    /** Chains told from their far end on, so that a day is pushed by one telling a time. */
    private static void longChains() {
        TapeHouse house = new TapeHouse();
        for (int event = 0; event < 9; event++) {
            house.behind(event, event + 1, 1110);
        }
        house.span(9, 9, 9999);
        due("a chain", house.left(10), 0);
        due("its end", house.when(0, 10, 0), 9999);
        due("its middle", house.when(5, 10, 0), 9 + 4 * 1110);
        house.behind(9, 0, -9990);
        due("a ring that holds", house.left(11), 0);
        house.behind(9, 0, -9989);
        due("a ring that does not", house.left(12), 2048);
        house = new TapeHouse();
        for (int event = 0; event < 9; event++) {
            house.behind(event + 1, event, 1110);
        }
        house.span(9, 0, 9990);
        due("a chain", house.left(10), 0);
        due("its start", house.when(0, 10, 1), 0);
        due("its middle", house.when(4, 10, 1), 4440);
        house.span(0, 1, 1);
        due("pushed off its end", house.left(11), 1024);
    }

    private static void when() {
        TapeHouse house = new TapeHouse();
        house.span(0, 100, 200);
        house.behind(1, 0, 10);
        house.behind(2, 1, -5);
        house.span(2, 0, 150);
        due("earliest", house.when(2, 4, 0), 105);
        due("latest", house.when(2, 4, 1), 150);
        due("earliest", house.when(1, 4, 0), 110);
        due("latest", house.when(1, 4, 1), 155);
        due("latest", house.when(0, 4, 1), 145);
        due("known by three", house.when(0, 3, 1), 200);
        due("free", house.when(9, 4, 0), 0);
        due("free", house.when(9, 4, 1), 9999);
        house.span(2, 0, 104);
        due("one is left out", house.left(5), 16);
        due("it does not count", house.when(2, 5, 0), 105);
        due("no such event", house.when(10, 4, 0), NONE);
        due("no such event", house.when(-1, 4, 0), NONE);
        due("no such n", house.when(0, 6, 0), NONE);
        due("no such n", house.when(0, -1, 0), NONE);
        due("no such what", house.when(0, 4, 2), NONE);
        due("no such what", house.when(0, 4, -1), NONE);
    }

    private static void count() {
        TapeHouse house = house();
        house.asker(0);
        house.copy(0);
        house.same(0, 1);
        house.feed(0, 0, 0, 0, 0);
        int[] want = {2, 1, 1, 1, 1, 1, 1, 20, 2};
        for (int what = 0; what < want.length; what++) {
            due("count(" + what + ")", house.count(what), want[what]);
        }
        due("count(-1)", house.count(-1), NONE);
        due("count(9)", house.count(9), NONE);
    }
}
