import java.util.ArrayList;
import java.util.List;

/**
 * A run of calls on a new object, each with the answer that is due, which tests one sentence of the
 * document. For every call of the run that is refused it is also tested that it changed nothing.
 */
final class Run {
    static final int MOST_CALLS = 512;
    static final int NO_LIMIT = 1_000_000;

    private record Row(String call, String due) {
    }

    final String section;
    final String sentence;
    private final String what;
    private final List<Row> rows = new ArrayList<>();
    private int mostCalls = MOST_CALLS;

    Run(String section, String sentence, String what) {
        this.section = section;
        this.sentence = sentence;
        this.what = what;
    }

    /** For limits that no 512 calls reach: the document leaves them free, the program keeps them. */
    Run beyond512() {
        mostCalls = NO_LIMIT;
        return this;
    }

    Run due(String call, int answer) {
        return row(call, String.valueOf(answer));
    }

    Run due(String call, boolean answer) {
        return row(call, String.valueOf(answer));
    }

    Run passes(String... calls) {
        for (String call : calls) {
            row(call, Calls.DONE);
        }
        return this;
    }

    Run noSuch(String... calls) {
        return refused("IndexOutOfBoundsException", calls);
    }

    Run badArgument(String... calls) {
        return refused("IllegalArgumentException", calls);
    }

    Run badState(String... calls) {
        return refused("IllegalStateException", calls);
    }

    /** Calls that only lead to the state that is asked for: they may not throw, any answer will do. */
    Run make(String... calls) {
        for (String call : calls) {
            row(call, null);
        }
        return this;
    }

    /** The call for every number from .. to - 1 in the place of #. */
    Run each(int from, int to, String call) {
        for (int i = from; i < to; i++) {
            make(put(call, i));
        }
        return this;
    }

    /** The same, where every answer is to be the same one. */
    Run eachDue(int from, int to, String call, int answer) {
        for (int i = from; i < to; i++) {
            due(put(call, i), answer);
        }
        return this;
    }

    /** Answers of the same call for 0, 1, 2 .. in the place of #. */
    Run answers(String call, int... answers) {
        for (int i = 0; i < answers.length; i++) {
            due(put(call, i), answers[i]);
        }
        return this;
    }

    /** Cards that may go everywhere and never end. */
    Run cards(int count) {
        return each(0, count, "issue(-1, MAX)");
    }

    /** Makes the entries from + 1 .. to, for the cards from .. to - 1. */
    Run revoked(int from, int to) {
        return each(from, to, "revoke(#)");
    }

    /** A card goes to the gate, and from there to a door. */
    Run brings(int card, int door) {
        return make("gate(" + card + ")", "show(" + card + ", " + door + ", 0)");
    }

    /** Calls that change nothing, until so many calls were made. */
    Run filledUpTo(int calls) {
        while (rows.size() < calls) {
            make("cards()");
        }
        return this;
    }

    private Run refused(String exception, String... calls) {
        for (String call : calls) {
            row(call, Calls.THROWS + exception);
        }
        return this;
    }

    private Run row(String call, String due) {
        rows.add(new Row(call, due));
        return this;
    }

    private static String put(String call, int number) {
        return call.replace("#", String.valueOf(number));
    }

    void check(Checks checks) {
        String name = section + ", \"" + sentence + "\" (" + what + ")";
        checks.holds(name + ": a run of at most " + mostCalls + " calls", true, () -> rows.size() <= mostCalls);
        LockHouse x = new LockHouse();
        for (int i = 0; i < rows.size(); i++) {
            Row row = rows.get(i);
            String got = Calls.make(x, row.call);
            boolean right = row.due == null ? !got.startsWith(Calls.THROWS) : row.due.equals(got);
            checks.same(name + ": call " + (i + 1) + ", " + row.call, row.due, got, right);
            if (row.due != null && row.due.startsWith(Calls.THROWS)) {
                new Twins(callsBefore(i), row.call, mostCalls).check(name, checks);
            }
        }
    }

    private List<String> callsBefore(int row) {
        List<String> calls = new ArrayList<>();
        for (Row before : rows.subList(0, row)) {
            calls.add(before.call);
        }
        return calls;
    }
}
