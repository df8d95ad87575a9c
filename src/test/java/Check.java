/** What the tests share: counting wrong answers, and giving a house a text. */
final class Check {
    private int wrong;
    private int asked;

    void due(String call, long got, long want) {
        asked++;
        if (got != want) {
            wrong++;
            System.out.println(call + " answered " + got + ", due is " + want);
        }
    }

    void due(String call, boolean got, boolean want) {
        due(call, got ? 1 : 0, want ? 1 : 0);
    }

    /** Prints the sum and ends with exit code 1 if an answer was wrong. */
    void end() {
        System.out.println(wrong == 0 ? asked + " answers are as due" : wrong + " of " + asked + " answers are not as due");
        if (wrong != 0) {
            System.exit(1);
        }
    }

    /** The five ints of feed() for twenty bytes of a text from a place on, blanks behind its end. */
    static int[] fed(String text, int from) {
        int[] five = new int[5];
        for (int i = 0; i < 20; i++) {
            int c = from + i < text.length() ? text.charAt(from + i) & 255 : ' ';
            five[i / 4] = five[i / 4] << 8 | c;
        }
        return five;
    }

    /** Puts the text behind the tape of bytes, which has room for it, rounded up to twenties. */
    static void feed(TapeHouse house, String text) {
        for (int at = 0; at < text.length(); at += 20) {
            int[] five = fed(text, at);
            house.feed(five[0], five[1], five[2], five[3], five[4]);
        }
        house.back((20 - text.length() % 20) % 20);
    }

    static int read(TapeHouse house, int person, String text) {
        feed(house, text);
        return house.read(person);
    }
}
