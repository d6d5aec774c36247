/** The section 'The public face': what each method throws, and its constants. */
final class FaceSentences {
    private static final String SECTION = "The public face";

    private FaceSentences() {
    }

    static void tell(Book book) {
        constants(book);
        cardMethods(book);
        doorMethods(book);
        otherMethods(book);
        limits(book);
    }

    private static Run run(Book book, String line, String what) {
        return book.run(SECTION, line, what);
    }

    private static void constants(Book book) {
        run(book, "public final class LockHouse {", "a new object").due("cards()", 0);
        run(book, "public LockHouse();", "a new object").due("cards()", 0).due("entries()", 0);
        run(book, "public int cards();", "throws nothing").due("cards()", 0).cards(1).due("cards()", 1);
        run(book, "public int entries();", "throws nothing").due("entries()", 0).cards(1).due("entries()", 0);
        run(book, "public static final int NONE = -1;", "an entry that there is already")
                .cards(1).make("revoke(0)").due("revoke(0)", -1);
        run(book, "public static final int ADMITTED = 0, REVOKED = 1, ENDED = 2, NO_RIGHT = 3;", "each of them")
                .make("issue(1, 5)", "issue(1, 5)", "issue(2, 5)", "revoke(1)", "gate(0)")
                .due("show(0, 0, 5)", 0).due("show(1, 0, 5)", 1).due("show(0, 0, 6)", 2).due("show(2, 0, 5)", 3);
    }

    /** Three cards, 0 .. 2: the number before the first one, the one behind the last one, and far ones. */
    private static Run noSuchCard(Book book, String line, String call) {
        Run run = run(book, line, "no such card")
                .noSuch(put(call, "0"), put(call, "-1"))
                .cards(3);
        for (String card : new String[] {"MIN", "-1", "3", "4000", "MAX"}) {
            run.noSuch(put(call, card));
        }
        return run.make(put(call, "0"), put(call, "2"));
    }

    private static Run noSuchDoor(Book book, String line, String call) {
        Run run = run(book, line, "no such door").cards(1);
        for (String door : new String[] {"MIN", "-1", "200", "MAX"}) {
            run.noSuch(put(call, door));
        }
        return run.make(put(call, "0"), put(call, "199"));
    }

    private static String put(String call, String number) {
        return call.replace("#", number);
    }

    private static void cardMethods(Book book) {
        noSuchCard(book, "public int revoke(int card) throws IndexOutOfBoundsException, IllegalStateException;",
                "revoke(#)");
        noSuchCard(book, "public void gate(int card) throws IndexOutOfBoundsException;", "gate(#)");
        String tear = "public void tear(int card, int keep) throws IndexOutOfBoundsException, "
                + "IllegalArgumentException;";
        noSuchCard(book, tear, "tear(#, 0)");
        run(book, tear, "no such number of words").cards(1)
                .badArgument("tear(0, MIN)", "tear(0, -1)", "tear(0, 51)", "tear(0, MAX)")
                .passes("tear(0, 0)", "tear(0, 50)");
        noSuchCard(book, "public int written(int card) throws IndexOutOfBoundsException;", "written(#)");
        String word = "public int word(int card, int image, int i) throws IndexOutOfBoundsException;";
        noSuchCard(book, word, "word(#, 0, 0)");
        run(book, word, "no such image, no such word").cards(1)
                .noSuch("word(0, MIN, 0)", "word(0, -1, 0)", "word(0, 2, 0)", "word(0, MAX, 0)")
                .noSuch("word(0, 0, MIN)", "word(0, 0, -1)", "word(0, 0, 44)", "word(0, 0, MAX)")
                .noSuch("word(0, 1, -1)", "word(0, 1, 44)", "word(0, -1, 44)", "word(0, 2, -44)")
                .due("word(0, 0, 0)", 0).due("word(0, 1, 43)", 0);
        String carries = "public int carries(int card, int what) throws IndexOutOfBoundsException, "
                + "IllegalArgumentException;";
        noSuchCard(book, carries, "carries(#, 0)");
        run(book, carries, "nothing that it carries").cards(1)
                .badArgument("carries(0, MIN)", "carries(0, -1)", "carries(0, 4)", "carries(0, MAX)")
                .answers("carries(0, #)", 0, 0, 0, 0);
        run(book, "public int memory(int card, int i) throws IndexOutOfBoundsException;", "no such card or entry")
                .noSuch("memory(0, 0)").cards(2).noSuch("memory(0, 0)", "memory(0, -1)")
                .make("revoke(1)", "gate(0)").due("memory(0, 0)", 1)
                .noSuch("memory(MIN, 0)", "memory(-1, 0)", "memory(2, 0)", "memory(MAX, 0)", "memory(1, 0)")
                .noSuch("memory(0, MIN)", "memory(0, -1)", "memory(0, 1)", "memory(0, MAX)");
    }

    private static void doorMethods(Book book) {
        String zoneOf = "public void zoneOf(int door, int zone) throws IndexOutOfBoundsException, "
                + "IllegalArgumentException, IllegalStateException;";
        noSuchDoor(book, zoneOf, "zoneOf(#, 0)");
        run(book, zoneOf, "no such zone")
                .badArgument("zoneOf(0, MIN)", "zoneOf(0, -1)", "zoneOf(0, 32)", "zoneOf(0, MAX)")
                .passes("zoneOf(0, 0)", "zoneOf(0, 31)");
        run(book, zoneOf, "a card was shown there").cards(1).passes("zoneOf(9, 1)")
                .make("show(0, 9, 0)").badState("zoneOf(9, 1)", "zoneOf(9, 0)", "zoneOf(9, 31)")
                .passes("zoneOf(8, 31)", "zoneOf(10, 31)");
        String show = "public int show(int card, int door, int day) throws IndexOutOfBoundsException;";
        noSuchCard(book, show, "show(#, 0, 0)");
        noSuchDoor(book, show, "show(0, #, 0)");
        String about = "public int about(int door, int what) throws IndexOutOfBoundsException, "
                + "IllegalArgumentException;";
        noSuchDoor(book, about, "about(#, 0)");
        run(book, about, "nothing that is told of a door")
                .badArgument("about(0, MIN)", "about(0, -1)", "about(0, 5)", "about(199, 5)", "about(0, MAX)")
                .answers("about(0, #)", 0, 0, 0, 0, 0);
        run(book, "public int run(int door, int i, boolean first) throws IndexOutOfBoundsException;",
                "no such door, no such run")
                .cards(2).make("revoke(1)").brings(0, 0).brings(0, 199)
                .noSuch("run(MIN, 0, true)", "run(-1, 0, true)", "run(200, 0, true)", "run(MAX, 0, false)")
                .noSuch("run(0, MIN, true)", "run(0, -1, true)", "run(0, 1, false)", "run(0, MAX, false)")
                .due("run(0, 0, true)", 1).due("run(199, 0, false)", 1);
        String refuses = "public boolean refuses(int door, int card) throws IndexOutOfBoundsException;";
        noSuchDoor(book, refuses, "refuses(#, 0)");
        noSuchCard(book, refuses, "refuses(0, #)");
        noSuchDoor(book, "public void loseBattery(int door) throws IndexOutOfBoundsException;", "loseBattery(#)");
    }

    private static void otherMethods(Book book) {
        run(book, "public int reach(int entry) throws IndexOutOfBoundsException;", "no such entry")
                .noSuch("reach(0)", "reach(1)").cards(2).make("revoke(1)", "revoke(0)")
                .noSuch("reach(MIN)", "reach(-1)", "reach(0)", "reach(3)", "reach(3000)", "reach(MAX)")
                .due("reach(1)", 0).due("reach(2)", 0);
        String visit = "public void visit(int i, int card, int door, int day) throws IndexOutOfBoundsException;";
        noSuchCard(book, visit, "visit(0, #, 0, 0)");
        noSuchDoor(book, visit, "visit(0, 0, #, 0)");
        run(book, visit, "no such visit").cards(1)
                .noSuch("visit(MIN, 0, 0, 0)", "visit(-1, 0, 0, 0)", "visit(200, 0, 0, 0)", "visit(MAX, 0, 0, 0)")
                .passes("visit(0, 0, 0, 0)", "visit(199, 0, 0, 0)");
        run(book, "public int spread(int n) throws IllegalArgumentException;", "no such number of visits").cards(1)
                .badArgument("spread(MIN)", "spread(-1)", "spread(201)", "spread(MAX)")
                .due("spread(0)", 0).due("spread(200)", 0);
    }

    private static void limits(Book book) {
        run(book, "public int issue(int zones, int endDay) throws IllegalStateException;", "one card too many")
                .beyond512().each(0, 3999, "issue(-1, MAX)").due("issue(-1, MAX)", 3999)
                .badState("issue(-1, MAX)", "issue(0, MIN)", "issue(MIN, 0)").due("cards()", 4000);
        run(book, "public int revoke(int card) throws IndexOutOfBoundsException, IllegalStateException;",
                "one entry too many")
                .beyond512().cards(3002).revoked(0, 2999).due("revoke(2999)", 3000)
                .badState("revoke(3000)", "revoke(3001)").due("revoke(2999)", -1).due("entries()", 3000);
    }
}
