import java.util.ArrayList;
import java.util.List;

/**
 * Calls that together show all that a house holds. They come in groups, each for a house of its
 * own, as a house is promised for 512 calls alone, and as the last groups change it.
 */
final class Probes {
    static final List<List<Call>> GROUPS = List.of(sizesAndDays(), heard(), knownAndSeconds(), rules(), asking(), newcomers(), onceOnly());

    private Probes() {
    }

    private static void add(List<Call> group, String name, int... args) {
        group.add(new Call(name, args));
    }

    private static void addCounts(List<Call> group) {
        for (int what = 0; what <= 8; what++) {
            add(group, "count", what);
        }
    }

    private static List<Call> sizesAndDays() {
        List<Call> group = new ArrayList<>();
        addCounts(group);
        add(group, "place");
        for (int n = 0; n <= 12; n++) {
            add(group, "left", n);
        }
        for (int event = 0; event < 10; event++) {
            for (int n : new int[] {1, 2, 11, 12}) {
                add(group, "when", event, n, 0);
                add(group, "when", event, n, 1);
            }
        }
        return group;
    }

    private static List<Call> heard() {
        List<Call> group = new ArrayList<>();
        for (int asker = 0; asker < 6; asker++) {
            for (int piece = 0; piece < 30; piece++) {
                add(group, "heard", asker, piece);
            }
        }
        return group;
    }

    private static List<Call> knownAndSeconds() {
        List<Call> group = new ArrayList<>();
        for (int asker = 0; asker < 6; asker++) {
            for (int i = 0; i < 12; i++) {
                add(group, "could", asker, i);
                add(group, "seconds", i, asker);
            }
        }
        for (int topic = 0; topic < 12; topic++) {
            add(group, "seconds", topic, -1);
        }
        return group;
    }

    private static List<Call> rules() {
        List<Call> group = new ArrayList<>();
        for (int piece = 0; piece < 30; piece++) {
            add(group, "let", piece, 60, 0, 0);
            add(group, "let", piece, 9999, 3, 3);
            add(group, "mask", piece, 60, 0, 0);
            add(group, "mask", piece, 9999, 3, 3);
        }
        add(group, "opens", 0, 0, 0, 0);
        return group;
    }

    private static List<Call> asking() {
        List<Call> group = new ArrayList<>();
        for (int piece = 0; piece < 6; piece++) {
            for (int copy = -1; copy < 4; copy++) {
                add(group, "would", 0, piece, copy, 60, 0);
                add(group, "would", 1, piece, copy, 9999, 1);
            }
        }
        for (int tape = 0; tape < 6; tape++) {
            for (int second : new int[] {0, 1, 9, 10, 20, 25, 29, 30, 49, 50, 90, 99, 998}) {
                add(group, "at", tape, second);
            }
        }
        return group;
    }

    /** What comes next of each, and what the bytes are that wait. */
    private static List<Call> newcomers() {
        List<Call> group = new ArrayList<>();
        add(group, "person", 1, 2, 3, 0);
        add(group, "read", 0);
        add(group, "place");
        add(group, "let", 0, 60, 0, 0);
        add(group, "mask", 0, 60, 0, 0);
        add(group, "topic", -1);
        add(group, "topic", 0);
        add(group, "tape", 0, 7, 7);
        add(group, "asker", 2);
        add(group, "copy", 7);
        for (int second = 0; second < 100; second += 10) {
            add(group, "piece", 0, second, second + 1, 0, -1, 0);
        }
        add(group, "piece", 1, 3, 4, 0, 0, 1);
        add(group, "span", 0, 5, 5);
        for (int n = 0; n <= 12; n++) {
            add(group, "left", n);
            add(group, "when", 0, n, 0);
        }
        addCounts(group);
        return group;
    }

    private static List<Call> onceOnly() {
        List<Call> group = new ArrayList<>();
        for (int person = 0; person < 12; person++) {
            add(group, "dies", person, 5000);
        }
        for (int piece = 0; piece < 30; piece++) {
            add(group, "takes", piece, 5000);
        }
        add(group, "let", 0, 5000, 0, 0);
        add(group, "would", 0, 0, -1, 4999, 0);
        add(group, "would", 0, 0, -1, 5000, 0);
        return group;
    }
}
