/** Promises 1 to 6, sentence by sentence: a new object, issue, cards, revoke, entries, gate. */
final class GateSentences {
    private GateSentences() {
    }

    static void tell(Book book) {
        newObject(book);
        issue(book);
        cards(book);
        revoke(book);
        revokeRefused(book);
        entries(book);
        gate(book);
        gateRefused(book);
    }

    private static void newObject(Book book) {
        String promise = "Promise 1: A new object";
        String sentence = "No cards, no entries, 200 doors, 200 visits that are none.";
        book.run(promise, sentence, "no cards").due("cards()", 0).noSuch("written(0)", "written(-1)", "gate(0)");
        book.run(promise, sentence, "no entries").due("entries()", 0).noSuch("reach(0)", "reach(1)");
        book.run(promise, sentence, "200 doors").eachDue(0, 200, "about(#, 3)", 0).eachDue(0, 200, "about(#, 0)", 0)
                .noSuch("about(-1, 0)", "about(200, 0)");
        book.run(promise, sentence, "at no door a card was shown").each(0, 200, "zoneOf(#, 31)");
        book.run(promise, sentence, "200 visits that are none").due("spread(200)", 0).cards(1).due("spread(200)", 0)
                .each(0, 200, "zoneOf(#, 1)");
        book.run(promise, sentence, "visits 0 and 199, and no others").cards(1)
                .passes("visit(0, 0, 0, 0)", "visit(199, 0, 0, 0)").noSuch("visit(-1, 0, 0, 0)", "visit(200, 0, 0, 0)");
    }

    private static void issue(Book book) {
        String promise = "Promise 2: issue";
        String number = "A new card: its number.";
        book.run(promise, number, "the first one, and the next ones").due("issue(1, 5)", 0).due("issue(1, 5)", 1)
                .due("issue(1, 5)", 2);
        book.run(promise, number, "any mask and any end day").due("issue(0, 0)", 0).due("issue(MIN, MIN)", 1)
                .due("issue(MAX, MAX)", 2).due("issue(-1, -1)", 3);
        book.run(promise, number, "its images are empty, whatever others carry").cards(2)
                .make("revoke(0)", "gate(1)", "tear(1, 0)").due("issue(-1, 5)", 2).answers("carries(2, #)", 0, 0, 0, 0)
                .due("written(2)", 0).passes("gate(2)").due("written(2)", 5);
        book.run(promise, number, "it is not revoked").cards(1).make("revoke(0)").brings(0, 0)
                .due("issue(-1, 5)", 1).due("refuses(0, 1)", false).due("revoke(1)", 2);
        book.run(promise, "IllegalStateException when there are 4000.", "card 4000 is refused, card 3999 is not")
                .beyond512().each(0, 3999, "issue(0, 0)").due("issue(0, 0)", 3999)
                .badState("issue(0, 0)", "issue(-1, MAX)").due("cards()", 4000).badState("issue(0, 0)");
    }

    private static void cards(Book book) {
        String promise = "Promise 3: cards";
        String sentence = "How many cards there are.";
        book.run(promise, sentence, "none").due("cards()", 0);
        book.run(promise, sentence, "one, and a revoked one counts too").cards(1).due("cards()", 1).make("revoke(0)")
                .due("cards()", 1).cards(1).due("cards()", 2);
        book.run(promise, sentence, "as many as 511 calls can make").cards(511).due("cards()", 511);
        book.run(promise, sentence, "3999, 4000, and no more").beyond512().cards(3999).due("cards()", 3999)
                .cards(1).due("cards()", 4000).badState("issue(0, 0)").due("cards()", 4000);
    }

    private static void revoke(Book book) {
        String promise = "Promise 4: revoke";
        String number = "Makes the entry that revokes a card: its number;";
        book.run(promise, number, "the first entry, for the last card; the last entry, for the first card").cards(3)
                .due("revoke(2)", 1).due("revoke(1)", 2).due("revoke(0)", 3).due("entries()", 3)
                .make("gate(0)").due("memory(0, 0)", 2).due("memory(0, 1)", 1).due("memory(0, 2)", 0);
        String none = "NONE when there is one already.";
        book.run(promise, none, "at once, and behind other entries").cards(2).due("revoke(0)", 1).due("revoke(0)", -1)
                .due("revoke(1)", 2).due("revoke(0)", -1).due("revoke(1)", -1).due("entries()", 2)
                .make("gate(0)").due("carries(0, 1)", 2).due("carries(0, 3)", 2);
        book.run(promise, none, "with 3000 entries too").beyond512().cards(3001).revoked(0, 3000)
                .due("revoke(0)", -1).due("revoke(2999)", -1).due("entries()", 3000);
    }

    private static void revokeRefused(Book book) {
        String promise = "Promise 4: revoke";
        String index = "IndexOutOfBoundsException;";
        book.run(promise, index, "no cards").noSuch("revoke(0)", "revoke(-1)");
        book.run(promise, index, "before the first card, behind the last one").cards(2)
                .noSuch("revoke(-1)", "revoke(2)", "revoke(MIN)", "revoke(MAX)").due("entries()", 0)
                .due("revoke(0)", 1).due("revoke(1)", 2);
        book.run(promise, "IllegalStateException when there are 3000 and none is for it.", "entry 3000, and no more")
                .beyond512().cards(3002).revoked(0, 2999).due("revoke(3000)", 3000)
                .badState("revoke(2999)", "revoke(3001)").due("revoke(3000)", -1).due("revoke(0)", -1)
                .due("entries()", 3000);
    }

    private static void entries(Book book) {
        String promise = "Promise 5: entries";
        String sentence = "How many entries there are.";
        book.run(promise, sentence, "none").due("entries()", 0).cards(1).due("entries()", 0);
        book.run(promise, sentence, "one, and not again for the same card").cards(2).make("revoke(1)")
                .due("entries()", 1)
                .make("revoke(1)").due("entries()", 1).noSuch("revoke(2)").due("entries()", 1);
        book.run(promise, sentence, "more than a card carries").cards(41).revoked(0, 41).due("entries()", 41);
        book.run(promise, sentence, "2999, 3000, and no more").beyond512().cards(3001).revoked(0, 2999)
                .due("entries()", 2999).make("revoke(2999)").due("entries()", 3000).badState("revoke(3000)")
                .due("entries()", 3000);
    }

    private static void gate(Book book) {
        String promise = "Promise 6: gate";
        String sentence = "A card at the gate.";
        book.run(promise, sentence, "no entries").cards(1).passes("gate(0)").due("written(0)", 0)
                .answers("carries(0, #)", 0, 0, 0, 0);
        book.run(promise, sentence, "the first card and the last one").cards(3).make("revoke(1)")
                .passes("gate(0)", "gate(2)").due("carries(0, 1)", 1).due("carries(1, 1)", 0).due("carries(2, 1)", 1);
        book.run(promise, sentence, "40 entries, and 41").cards(42).revoked(0, 40).passes("gate(41)")
                .answers("carries(41, #)", 1, 40, 1, 40).revoked(40, 41).passes("gate(41)")
                .answers("carries(41, #)", 0, 40, 2, 41).due("written(41)", 88);
        book.run(promise, sentence, "twice without a new entry").cards(2).make("revoke(1)").passes("gate(0)", "gate(0)")
                .due("written(0)", 5);
        book.run(promise, sentence, "no door hears of it").cards(2).make("revoke(1)").passes("gate(0)")
                .due("reach(1)", 0)
                .passes("zoneOf(0, 1)");
    }

    private static void gateRefused(Book book) {
        String promise = "Promise 6: gate";
        String index = "IndexOutOfBoundsException.";
        book.run(promise, index, "no cards").noSuch("gate(0)", "gate(-1)");
        book.run(promise, index, "before the first card, behind the last one").cards(2).make("revoke(0)")
                .noSuch("gate(-1)", "gate(2)", "gate(MIN)", "gate(MAX)").due("written(0)", 0).due("written(1)", 0);
    }
}
