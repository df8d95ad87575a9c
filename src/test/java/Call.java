import java.util.Arrays;
import java.util.List;
import java.util.stream.Collectors;

/** A call as text, such as "topic(NONE)", that can be made on any house; true answers 1, false 0. */
record Call(String name, int[] args) {
    static Call of(String text) {
        int open = text.indexOf('(');
        String inside = text.substring(open + 1, text.length() - 1).trim();
        String[] parts = inside.isEmpty() ? new String[0] : inside.split(",");
        return new Call(text.substring(0, open), Arrays.stream(parts).mapToInt(part -> number(part.trim())).toArray());
    }

    private static int number(String text) {
        return switch (text) {
            case "NONE" -> TapeHouse.NONE;
            case "MIN" -> Integer.MIN_VALUE;
            case "MAX" -> Integer.MAX_VALUE;
            default -> Integer.parseInt(text);
        };
    }

    boolean answersBoolean() {
        return List.of("bound", "dies", "takes").contains(name);
    }

    int on(TapeHouse house) {
        return switch (name) {
            case "feed" -> house.feed(args[0], args[1], args[2], args[3], args[4]);
            case "back" -> house.back(args[0]);
            case "read" -> house.read(args[0]);
            case "place" -> house.place();
            case "person" -> house.person(args[0], args[1], args[2], args[3]);
            case "topic" -> house.topic(args[0]);
            case "tape" -> house.tape(args[0], args[1], args[2]);
            case "piece" -> house.piece(args[0], args[1], args[2], args[3], args[4], args[5]);
            case "asker" -> house.asker(args[0]);
            case "copy" -> house.copy(args[0]);
            case "bound" -> house.bound(args[0]) ? 1 : 0;
            case "dies" -> house.dies(args[0], args[1]) ? 1 : 0;
            case "takes" -> house.takes(args[0], args[1]) ? 1 : 0;
            default -> askOn(house);
        };
    }

    private int askOn(TapeHouse house) {
        return switch (name) {
            case "let" -> house.let(args[0], args[1], args[2], args[3]);
            case "mask" -> house.mask(args[0], args[1], args[2], args[3]);
            case "would" -> house.would(args[0], args[1], args[2], args[3], args[4]);
            case "ask" -> house.ask(args[0], args[1], args[2], args[3], args[4]);
            case "heard" -> house.heard(args[0], args[1]);
            case "could" -> house.could(args[0], args[1]);
            case "seconds" -> house.seconds(args[0], args[1]);
            case "opens" -> house.opens(args[0], args[1], args[2], args[3]);
            case "at" -> house.at(args[0], args[1]);
            case "span" -> house.span(args[0], args[1], args[2]);
            case "behind" -> house.behind(args[0], args[1], args[2]);
            case "same" -> house.same(args[0], args[1]);
            case "left" -> house.left(args[0]);
            case "when" -> house.when(args[0], args[1], args[2]);
            case "count" -> house.count(args[0]);
            default -> throw new IllegalArgumentException("no call " + name);
        };
    }

    @Override
    public String toString() {
        return name + Arrays.stream(args).mapToObj(String::valueOf).collect(Collectors.joining(", ", "(", ")"));
    }
}
