/** The section 'Terms': a call that throws, and which exception it throws. */
final class RefusalTerms {
    private static final String SECTION = "Terms";
    private static final String NOTHING = "A call that throws changes nothing;";
    private static final String FIRST = "where several exceptions that a call names fit, the one named first is "
            + "thrown.";
    private static final String NO_SUCH = "IndexOutOfBoundsException: there is no such card, door, entry, or thing.";

    private RefusalTerms() {
    }

    static void tell(Book book) {
        changesNothing(book);
        namedFirst(book);
        noSuch(book);
    }

    private static Run run(Book book, String sentence, String what) {
        return book.run(SECTION, sentence, what);
    }

    /** Of every refused call it is tested that it changed nothing; here all that a call can change is set. */
    private static Run allSet(Book book, String what) {
        return run(book, NOTHING, what).cards(4).make("revoke(3)", "gate(0)", "show(0, 0, 0)", "show(0, 199, 0)")
                .make("revoke(2)", "gate(1)", "zoneOf(1, 5)", "tear(0, 3)", "tear(1, 4)")
                .make("visit(0, 0, 0, 0)", "visit(1, 1, 1, 0)", "visit(199, 2, 199, 0)");
    }

    private static void changesNothing(Book book) {
        allSet(book, "no such card").noSuch("revoke(4)", "gate(4)", "show(4, 1, 0)", "tear(4, 0)", "visit(0, 4, 1, 0)")
                .noSuch("revoke(-1)", "gate(-1)", "show(-1, 1, 0)", "tear(-1, 0)", "visit(0, -1, 1, 0)");
        allSet(book, "no such door").noSuch("show(1, 200, 0)", "show(1, -1, 0)", "zoneOf(200, 1)", "zoneOf(-1, 1)")
                .noSuch("loseBattery(200)", "loseBattery(-1)", "visit(0, 1, 200, 0)", "visit(0, 1, -1, 0)");
        allSet(book, "no such visit").noSuch("visit(200, 1, 1, 0)", "visit(-1, 1, 1, 0)");
        allSet(book, "no such number").badArgument("tear(0, 51)", "tear(0, -1)", "tear(2, 51)", "tear(2, -1)")
                .badArgument("zoneOf(1, 32)", "zoneOf(1, -1)", "zoneOf(2, 32)", "spread(201)", "spread(-1)");
        allSet(book, "no such state").badState("zoneOf(0, 5)", "zoneOf(199, 0)");
        allSet(book, "calls that only ask").noSuch("written(4)", "word(0, 2, 0)", "word(0, 0, 44)", "carries(4, 0)")
                .noSuch("memory(0, 1)", "about(200, 0)", "run(0, 1, true)", "refuses(200, 0)", "refuses(0, 4)")
                .noSuch("reach(0)", "reach(3)").badArgument("carries(0, 4)", "about(0, 5)");
    }

    private static void namedFirst(Book book) {
        run(book, FIRST, "zoneOf: no door, no zone").cards(1).make("show(0, 0, 0)", "show(0, 199, 0)")
                .noSuch("zoneOf(200, 32)", "zoneOf(200, -1)", "zoneOf(-1, 32)", "zoneOf(-1, -1)")
                .noSuch("zoneOf(MIN, MIN)", "zoneOf(MAX, MAX)");
        run(book, FIRST, "zoneOf: no zone, and a card was shown").cards(1).make("show(0, 0, 0)", "show(0, 199, 0)")
                .badArgument("zoneOf(0, 32)", "zoneOf(0, -1)", "zoneOf(199, 32)", "zoneOf(199, MIN)")
                .badState("zoneOf(0, 31)", "zoneOf(199, 0)");
        run(book, FIRST, "tear: no card, no number of words").cards(1)
                .noSuch("tear(1, 51)", "tear(1, -1)", "tear(-1, 51)", "tear(-1, -1)", "tear(MIN, MAX)")
                .badArgument("tear(0, 51)", "tear(0, -1)");
        run(book, FIRST, "carries: no card, nothing that it carries").cards(1)
                .noSuch("carries(1, 4)", "carries(1, -1)", "carries(-1, 4)", "carries(-1, -1)", "carries(MAX, MIN)")
                .badArgument("carries(0, 4)", "carries(0, -1)");
        run(book, FIRST, "about: no door, nothing that is told of it")
                .noSuch("about(200, 5)", "about(200, -1)", "about(-1, 5)", "about(-1, -1)", "about(MIN, MAX)")
                .badArgument("about(0, 5)", "about(199, -1)");
        run(book, FIRST, "revoke: no card, and 3000 entries").beyond512().cards(3001).revoked(0, 3000)
                .noSuch("revoke(3001)", "revoke(-1)", "revoke(MIN)", "revoke(MAX)").badState("revoke(3000)");
    }

    private static void noSuch(Book book) {
        run(book, NO_SUCH, "no card at all").noSuch("revoke(0)", "gate(0)", "show(0, 0, 0)", "tear(0, 0)", "written(0)")
                .noSuch("word(0, 0, 0)", "carries(0, 0)", "memory(0, 0)", "refuses(0, 0)", "visit(0, 0, 0, 0)");
        run(book, NO_SUCH, "the card behind the last one").cards(2)
                .noSuch("revoke(2)", "gate(2)", "show(2, 0, 0)", "tear(2, 0)", "written(2)")
                .noSuch("word(2, 0, 0)", "carries(2, 0)", "memory(2, 0)", "refuses(0, 2)", "visit(0, 2, 0, 0)");
        run(book, NO_SUCH, "the door behind the last one, the door before the first one").cards(1)
                .noSuch("zoneOf(200, 0)", "show(0, 200, 0)", "about(200, 0)", "run(200, 0, true)", "refuses(200, 0)")
                .noSuch("loseBattery(200)", "visit(0, 0, 200, 0)", "zoneOf(-1, 0)", "show(0, -1, 0)", "about(-1, 0)")
                .noSuch("run(-1, 0, true)", "refuses(-1, 0)", "loseBattery(-1)", "visit(0, 0, -1, 0)");
        run(book, NO_SUCH, "neither the card nor the door").cards(1)
                .noSuch("show(1, 200, 0)", "show(-1, -1, 0)", "refuses(200, 1)", "refuses(-1, -1)")
                .noSuch("visit(200, 1, 200, 0)", "visit(-1, -1, -1, 0)", "visit(0, 1, 200, 0)");
        run(book, NO_SUCH, "entries, words, images, runs and visits").cards(2).noSuch("reach(1)").make("revoke(0)")
                .noSuch("reach(0)", "reach(2)", "word(0, 0, 44)", "word(0, 2, 0)", "memory(0, 0)", "run(0, 0, true)")
                .noSuch("visit(200, 0, 0, 0)", "visit(-1, 0, 0, 0)");
    }
}
