/** The section 'What it is': no line to the doors, and for how many calls an object is used. */
final class UseSentences {
    private static final String SECTION = "What it is";
    private static final String CALLS = "An object is used for at most 512 calls after it has been made; "
            + "what later calls answer is free.";

    private UseSentences() {
    }

    static void tell(Book book) {
        noLine(book);
        tornWrite(book);
        for (String call : new String[] {"issue(-1, 9) 3", "cards() 3", "revoke(0) 2", "revoke(1) -1", "entries() 1",
            "show(2, 5, 0) 0", "show(1, 5, 0) 1", "show(2, 5, 10) 2", "written(0) 5", "word(0, 1, 43) 257",
            "carries(0, 3) 1", "memory(0, 0) 1", "about(5, 0) 1", "run(5, 0, false) 1", "reach(1) 1",
            "spread(200) 1"}) {
            int end = call.indexOf(')') + 1;
            upTo511(book, call).due(call.substring(0, end), Integer.parseInt(call.substring(end).trim()));
        }
        upTo511(book, "refuses").due("refuses(5, 1)", true);
        for (String call : new String[] {"gate(2)", "zoneOf(7, 31)", "tear(2, 50)", "loseBattery(5)",
            "visit(199, 2, 199, 0)"}) {
            upTo511(book, call).passes(call);
        }
        upTo511(book, "a refused card").noSuch("gate(3)");
        upTo511(book, "a refused number").badArgument("carries(0, 4)");
        upTo511(book, "a refused state").badState("zoneOf(5, 0)");
        nothingButCards(book);
        nothingButEntries(book);
    }

    private static void noLine(Book book) {
        book.run(SECTION, "A house with door locks that have no line to anywhere: cards that people carry bring pieces "
                + "of the list of revoked cards from the gate to doors, and from door to door;", "what no card brings")
                .cards(4).due("revoke(3)", 1)
                .due("show(3, 0, 0)", 0).due("reach(1)", 0)
                .passes("gate(0)").due("reach(1)", 0).due("refuses(0, 3)", false)
                .due("show(0, 0, 0)", 0).due("reach(1)", 1).due("show(3, 0, 0)", 1)
                .due("refuses(199, 3)", false)
                .make("show(1, 0, 0)").due("show(1, 199, 0)", 0).due("reach(1)", 2).due("show(3, 199, 0)", 1);
    }

    private static void tornWrite(Book book) {
        book.run(SECTION, "cards are written word by word, and a write may be torn.", "a write with one word missing")
                .cards(2).make("revoke(1)", "tear(0, 4)", "gate(0)")
                .due("written(0)", 4).answers("carries(0, #)", 0, 0, 0, 0);
    }

    private static Run upTo511(Book book, String what) {
        return book.run(SECTION, CALLS, "call 512: " + what)
                .each(0, 3, "issue(-1, 9)")
                .make("revoke(1)", "gate(0)", "show(0, 5, 0)", "visit(0, 2, 5, 0)")
                .filledUpTo(511);
    }

    private static void nothingButCards(Book book) {
        Run run = book.run(SECTION, CALLS, "512 cards");
        for (int card = 0; card < 512; card++) {
            run.due("issue(0, 0)", card);
        }
    }

    private static void nothingButEntries(Book book) {
        Run run = book.run(SECTION, CALLS, "256 cards, all of them revoked").cards(256);
        for (int card = 0; card < 256; card++) {
            run.due("revoke(" + (255 - card) + ")", card + 1);
        }
    }
}
