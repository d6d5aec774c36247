import java.util.ArrayList;
import java.util.List;
import java.util.TreeSet;

/**
 * Two houses with the same calls behind them, of which only one had a call more that is refused: a
 * call that throws changes nothing, so both must give the same answers ever after. The looks are
 * dealt out to many pairs, so that no object is used for more calls than the document promises.
 */
final class Twins {
    private static final int DOORS = 200;
    private static final int CARDS_LOOKED_AT = 6;
    // together these five masks tell every zone from every other
    private static final int[] ZONE_BITS = {0xAAAAAAAA, 0xCCCCCCCC, 0xF0F0F0F0, 0xFF00FF00, 0xFFFF0000};

    private final List<String> before;
    private final String refused;
    private final int mostCalls;
    private final int cards;
    private final int entries;

    Twins(List<String> before, String refused, int mostCalls) {
        this.before = before;
        this.refused = refused;
        this.mostCalls = mostCalls;
        LockHouse x = house();
        cards = x.cards();
        entries = x.entries();
    }

    private LockHouse house() {
        LockHouse x = new LockHouse();
        for (String call : before) {
            Calls.make(x, call);
        }
        return x;
    }

    void check(String name, Checks checks) {
        String changed = firstDifference();
        checks.same(name + ": " + refused + " is refused and changes nothing", "no difference", changed,
                changed.equals("no difference"));
    }

    private String firstDifference() {
        List<String> reads = reads();
        List<List<String>> changes = new ArrayList<>();
        changes.add(List.of());
        changes.add(List.of("spread(200)"));
        changes.add(writesOnCards());
        for (List<String> change : changes) {
            String found = difference(change, reads);
            if (found != null) {
                return found;
            }
        }
        String found = difference(List.of(), zonesSetAnew());
        if (found == null) {
            found = difference(cardsThatTellZones(), showsThatTellZones());
        }
        return found == null ? "no difference" : found;
    }

    /** The changes, and then as many of the looks as fit, on ever new pairs until all were taken. */
    private String difference(List<String> changes, List<String> looks) {
        int fit = mostCalls - before.size() - 1 - changes.size();
        if (fit <= 0) {
            return null;
        }
        for (int from = 0; from < looks.size(); from += fit) {
            List<String> script = new ArrayList<>(changes);
            script.addAll(looks.subList(from, Math.min(looks.size(), from + fit)));
            String found = differenceOfOnePair(script);
            if (found != null) {
                return found;
            }
        }
        return null;
    }

    private String differenceOfOnePair(List<String> script) {
        LockHouse plain = house();
        LockHouse asked = house();
        Calls.make(asked, refused);
        for (String call : script) {
            String due = Calls.make(plain, call);
            String got = Calls.make(asked, call);
            if (!due.equals(got)) {
                return call + " answered " + got + " behind it, without it " + due;
            }
        }
        return null;
    }

    private List<Integer> someCards() {
        TreeSet<Integer> some = new TreeSet<>();
        for (int i = 0; i < CARDS_LOOKED_AT / 2; i++) {
            some.add(i);
            some.add(cards - 1 - i);
        }
        some.removeIf(card -> card < 0 || card >= cards);
        return new ArrayList<>(some);
    }

    private List<String> reads() {
        // the refused call comes once more: it must not have become one that is allowed
        List<String> reads = new ArrayList<>(List.of(refused, "cards()", "entries()"));
        for (int card : someCards()) {
            readCard(reads, card);
        }
        for (int door = 0; door < DOORS; door++) {
            readDoor(reads, door);
        }
        for (int entry = 1; entry <= Math.min(entries, 100); entry++) {
            reads.add("reach(" + entry + ")");
        }
        return reads;
    }

    private static void readCard(List<String> reads, int card) {
        reads.add("written(" + card + ")");
        for (int what = 0; what < 4; what++) {
            reads.add("carries(" + card + ", " + what + ")");
        }
        for (int i = 0; i < 44; i++) {
            reads.add("word(" + card + ", 0, " + i + ")");
            reads.add("word(" + card + ", 1, " + i + ")");
        }
    }

    private void readDoor(List<String> reads, int door) {
        for (int what = 0; what < 5; what++) {
            reads.add("about(" + door + ", " + what + ")");
        }
        reads.add("run(" + door + ", 0, true)");
        reads.add("run(" + door + ", 0, false)");
        for (int card : someCards()) {
            reads.add("refuses(" + door + ", " + card + ")");
        }
    }

    /** A new entry for every card to be written tells whether one of them is to tear. */
    private List<String> writesOnCards() {
        List<String> calls = new ArrayList<>(List.of("issue(0, 0)", "revoke(" + cards + ")"));
        for (int card : someCards()) {
            calls.add("gate(" + card + ")");
        }
        return calls;
    }

    /** Tells at which doors a card was shown. */
    private static List<String> zonesSetAnew() {
        List<String> calls = new ArrayList<>();
        for (int door = 0; door < DOORS; door++) {
            calls.add("zoneOf(" + door + ", 7)");
        }
        return calls;
    }

    private static List<String> cardsThatTellZones() {
        List<String> calls = new ArrayList<>();
        for (int mask : ZONE_BITS) {
            calls.add("issue(" + mask + ", MAX)");
        }
        return calls;
    }

    private List<String> showsThatTellZones() {
        List<String> calls = new ArrayList<>();
        for (int door = 0; door < DOORS; door++) {
            for (int k = 0; k < ZONE_BITS.length; k++) {
                calls.add("show(" + (cards + k) + ", " + door + ", MIN)");
            }
        }
        return calls;
    }
}
