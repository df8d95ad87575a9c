import java.util.function.Consumer;

/** Tests of sentences that say of an argument from where to where it goes. */
final class Edges {
    static final int NONE = TapeHouse.NONE;
    private final Check check = new Check();

    Script of(String sentence) {
        return new Script(check, sentence);
    }

    /** A script that begins with two persons, a topic, a tape of 100 seconds of day 50 and a piece. */
    Script house(String sentence) {
        Script script = of(sentence);
        smallHouse(script);
        return script;
    }

    static void nothing(Script script) {
    }

    static void smallHouse(Script script) {
        script.given("person(0, 0, 0, 0)", "person(1, 1, 1, 1)", "topic(NONE)", "tape(0, 50, 100)", "piece(0, 0, 10, 0, 1, 15)");
    }

    /**
     * What stands for $ in the call may be low .. high. The call is made at both ends, on a house
     * each, and answers as due; beside them, and at both ends of int, it is refused, nothing
     * happens, and behind all that it is still taken.
     */
    void range(String sentence, Consumer<Script> ready, String call, int low, int high, int taken, int refused) {
        Script lowest = of(sentence);
        ready.accept(lowest);
        lowest.due(with(call, low), taken);
        Script script = of(sentence);
        ready.accept(script);
        for (int wrong : new int[] {low - 1, high + 1, Integer.MIN_VALUE, Integer.MAX_VALUE}) {
            script.refuses(with(call, wrong), refused);
        }
        script.due(with(call, high), taken);
    }

    static String with(String call, int value) {
        return call.replace("$", String.valueOf(value));
    }

    void end() {
        check.end();
    }
}
