/** Promises 19 and 20, sentence by sentence: visit, spread. */
final class VisitSentences {
    private VisitSentences() {
    }

    static void tell(Book book) {
        visit(book);
        visitRefused(book);
        spread(book);
        spreadCounts(book);
        spreadRefused(book);
    }

    private static void visit(Book book) {
        String promise = "Promise 19: visit";
        String sentence = "Visit i, 0 .. 199, is that of a card to a door on a day.";
        book.run(promise, sentence, "visit 0").cards(1).passes("visit(0, 0, 0, 0)").due("spread(1)", 1)
                .due("spread(200)", 1);
        book.run(promise, sentence, "visit 199").cards(1).passes("visit(199, 0, 0, 0)").due("spread(199)", 0)
                .due("spread(200)", 1);
        book.run(promise, sentence, "the last card, the first door and the last one").cards(3)
                .make("revoke(0)", "gate(2)")
                .passes("visit(0, 2, 0, 0)", "visit(1, 2, 199, 0)").due("reach(1)", 0).due("spread(2)", 2)
                .due("reach(1)", 2).due("about(0, 3)", 1).due("about(199, 3)", 1);
        book.run(promise, sentence, "the lowest day, the end day, the day behind it, the highest day")
                .make("issue(1, 7)")
                .passes("visit(0, 0, 0, MIN)", "visit(1, 0, 0, 7)", "visit(2, 0, 0, 8)", "visit(3, 0, 0, MAX)")
                .due("spread(1)", 1).due("spread(2)", 2).due("spread(3)", 2).due("spread(4)", 2);
        book.run(promise, sentence, "said twice: the later one").make("issue(1, 7)", "issue(0, 7)")
                .passes("visit(0, 1, 5, 8)", "visit(0, 0, 6, 7)").due("spread(200)", 1).passes("zoneOf(5, 1)")
                .badState("zoneOf(6, 1)");
        book.run(promise, sentence, "all 200").cards(1).each(0, 200, "visit(#, 0, #, 0)").due("spread(200)", 200)
                .due("spread(199)", 199);
        book.run(promise, sentence, "no card is shown by it alone").cards(2).make("revoke(0)", "gate(1)")
                .passes("visit(0, 1, 0, 0)").due("reach(1)", 0).passes("zoneOf(0, 1)");
    }

    private static void visitRefused(Book book) {
        String promise = "Promise 19: visit";
        String index = "IndexOutOfBoundsException.";
        book.run(promise, index, "visits -1 and 200").cards(1)
                .noSuch("visit(-1, 0, 0, 0)", "visit(200, 0, 0, 0)", "visit(MIN, 0, 0, 0)", "visit(MAX, 0, 0, 0)")
                .due("spread(200)", 0);
        book.run(promise, index, "no such card").noSuch("visit(0, 0, 0, 0)").cards(2)
                .noSuch("visit(0, -1, 0, 0)", "visit(0, 2, 0, 0)", "visit(0, MIN, 0, 0)", "visit(0, MAX, 0, 0)")
                .cards(1).due("spread(200)", 0);
        book.run(promise, index, "no such door").cards(1)
                .noSuch("visit(0, 0, -1, 0)", "visit(0, 0, 200, 0)", "visit(0, 0, MIN, 0)", "visit(0, 0, MAX, 0)")
                .due("spread(200)", 0);
        book.run(promise, index, "an earlier visit stays").make("issue(1, 7)", "issue(1, 9)")
                .passes("visit(0, 0, 5, 7)")
                .noSuch("visit(0, 2, 6, 8)", "visit(0, 1, 200, 8)", "visit(0, -1, 6, 8)", "visit(0, 1, -1, 8)")
                .due("spread(1)", 1).badState("zoneOf(5, 1)").passes("zoneOf(6, 1)");
    }

    private static void spread(Book book) {
        String promise = "Promise 20: spread";
        String sentence = "All visits from 0 on up to the n-th one are made, those that are none left out:";
        book.run(promise, sentence, "0: none").cards(1).make("visit(0, 0, 0, 0)").due("spread(0)", 0)
                .passes("zoneOf(0, 0)");
        book.run(promise, sentence, "1: visit 0 and not visit 1").cards(1)
                .make("visit(0, 0, 0, 0)", "visit(1, 0, 1, 0)")
                .due("spread(1)", 1).badState("zoneOf(0, 0)").passes("zoneOf(1, 0)");
        book.run(promise, sentence, "199: visit 198 and not visit 199").cards(1)
                .make("visit(198, 0, 0, 0)", "visit(199, 0, 1, 0)").due("spread(198)", 0).due("spread(199)", 1)
                .badState("zoneOf(0, 0)").passes("zoneOf(1, 0)");
        book.run(promise, sentence, "200: all").cards(1).make("visit(0, 0, 0, 0)", "visit(199, 0, 1, 0)")
                .due("spread(200)", 2).badState("zoneOf(0, 0)", "zoneOf(1, 0)");
        book.run(promise, sentence, "those that are none count among the n").cards(1).make("visit(3, 0, 0, 0)")
                .due("spread(3)", 0).passes("zoneOf(0, 0)").due("spread(4)", 1).badState("zoneOf(0, 0)");
        book.run(promise, sentence, "all are none").cards(1).due("spread(200)", 0).each(0, 200, "zoneOf(#, 0)");
        book.run(promise, sentence, "from 0 on, in order").cards(3).make("revoke(2)", "gate(0)")
                .make("visit(0, 2, 0, 0)", "visit(1, 0, 0, 0)", "visit(2, 2, 0, 0)").due("spread(3)", 2)
                .due("spread(3)", 1);
        book.run(promise, sentence, "visits stay, and are made again").cards(2).make("visit(0, 0, 0, 0)")
                .due("spread(1)", 1).due("spread(1)", 1).make("revoke(1)", "gate(0)").due("reach(1)", 0)
                .due("spread(1)", 1).due("reach(1)", 1);
        book.run(promise, sentence, "from door to door in one spread").cards(202).make("revoke(0)", "gate(1)")
                .each(0, 200, "visit(#, 1, #, 0)").due("spread(200)", 200).due("reach(1)", 200).due("written(1)", 5);
    }

    private static void spreadCounts(Book book) {
        String promise = "Promise 20: spread";
        String sentence = "how many of them were ADMITTED.";
        book.run(promise, sentence, "one of each answer").make("issue(1, 7)", "issue(1, 7)", "issue(0, 7)", "revoke(1)")
                .make("gate(0)", "visit(0, 0, 0, 7)", "visit(1, 1, 0, 7)", "visit(2, 0, 0, 8)", "visit(3, 2, 0, 7)")
                .due("spread(0)", 0).due("spread(1)", 1).due("spread(2)", 1).due("spread(3)", 1).due("spread(4)", 1)
                .due("spread(200)", 1);
        book.run(promise, sentence, "none of them, though made").make("issue(0, 7)").each(0, 10, "visit(#, 0, #, 0)")
                .due("spread(10)", 0).badState("zoneOf(0, 0)", "zoneOf(9, 0)");
        book.run(promise, sentence, "all 200 of them").cards(1).each(0, 200, "visit(#, 0, 0, #)")
                .due("spread(200)", 200);
    }

    private static void spreadRefused(Book book) {
        book.run("Promise 20: spread", "IllegalArgumentException when n is not 0 .. 200.", "-1 and 201").cards(1)
                .make("visit(0, 0, 0, 0)", "visit(199, 0, 1, 0)")
                .badArgument("spread(-1)", "spread(201)", "spread(MIN)", "spread(MAX)")
                .passes("zoneOf(0, 0)", "zoneOf(1, 0)").due("spread(200)", 2);
    }
}
