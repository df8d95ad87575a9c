import java.io.IOException;
import java.io.UncheckedIOException;
import java.nio.file.Files;
import java.nio.file.Path;
import java.util.ArrayList;
import java.util.List;

/**
 * A test of one sentence of the document: a run of calls on a new house with the answers that are
 * due. The run is kept, so that what a refused call did can be seen on houses made alike.
 */
final class Script {
    /** A house is promised for so many calls. */
    static final int MOST_CALLS = 512;
    private static final String DOCUMENT = document();

    private final Check check;
    private final String sentence;
    private final List<Call> calls = new ArrayList<>();
    private final TapeHouse house = new TapeHouse();

    Script(Check check, String sentence) {
        this.check = check;
        this.sentence = sentence;
        if (DOCUMENT != null) {
            check.due("the document says: " + sentence, DOCUMENT.contains(plain(sentence)), true);
        }
    }

    /** The document on one line; null where a test is run by hand without it. */
    private static String document() {
        String path = System.getProperty("tapehouse.document");
        try {
            return path == null ? null : plain(Files.readString(Path.of(path)));
        } catch (IOException e) {
            throw new UncheckedIOException(e);
        }
    }

    private static String plain(String text) {
        return text.replaceAll("\\s+", " ");
    }

    private String at(Object call) {
        return "'" + sentence + "', call " + (calls.size() + 1) + ": " + call;
    }

    private int make(Call call) {
        if (calls.size() == MOST_CALLS) {
            throw new IllegalStateException(at(call) + " is one too many");
        }
        calls.add(call);
        return call.on(house);
    }

    int size() {
        return calls.size();
    }

    Script due(String call, int want) {
        Call made = Call.of(call);
        String where = at(made);
        check.due(where, make(made), want);
        return this;
    }

    /** Calls that only make the house ready: none may be refused. */
    Script given(String... ready) {
        for (String call : ready) {
            Call made = Call.of(call);
            String where = at(made);
            int answer = make(made);
            check.due(where + " is taken", made.answersBoolean() ? answer == 1 : answer != TapeHouse.NONE, true);
        }
        return this;
    }

    /** The call answers so, and nothing happens: all that can be seen is as without it. */
    Script refuses(String call, int want) {
        Call refused = Call.of(call);
        for (List<Call> group : Probes.GROUPS) {
            if (calls.size() + 1 + group.size() > MOST_CALLS) {
                throw new IllegalStateException(at(refused) + " comes too late to be probed");
            }
            compare(refused, group);
        }
        return due(call, want);
    }

    private void compare(Call refused, List<Call> group) {
        TapeHouse without = again();
        TapeHouse with = again();
        refused.on(with);
        for (Call probe : group) {
            check.due(at(refused) + ", and behind it " + probe, probe.on(with), probe.on(without));
        }
    }

    private TapeHouse again() {
        TapeHouse another = new TapeHouse();
        for (Call call : calls) {
            call.on(another);
        }
        return another;
    }

    /** Feeds the text, of any length for which there is room. */
    Script text(String text) {
        for (int from = 0; from < text.length(); from += 20) {
            make(new Call("feed", Check.fed(text, from)));
        }
        if (text.length() % 20 != 0) {
            make(new Call("back", new int[] {20 - text.length() % 20}));
        }
        return this;
    }

    Script reads(int person, String text, int fault, int place) {
        return text(text).due("read(" + person + ")", fault).due("place()", place);
    }

    Script consent(int person, String text) {
        return reads(person, text, 0, TapeHouse.NONE);
    }
}
