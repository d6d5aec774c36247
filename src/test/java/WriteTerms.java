/** The section 'Terms': TO WRITE and TEAR. */
final class WriteTerms {
    private static final String SECTION = "Terms";
    private static final String NOTHING = "TO WRITE a run and SEEN on a card: nothing, if the current image tells just "
            + "these (a run without entries has FIRST 0).";
    private static final String ORDER = "Otherwise these words go, in this order, to the image that is not current: "
            + "HEAD, with the next sequence number (behind 255 comes 0), FIRST, SEEN, the numbers of cards, TAIL.";
    private static final String TEAR = "When the card is to TEAR after a number of words, only so many of them are "
            + "written (all, if there are not more); then it is to tear no more.";
    private static final String NO_TEARING = "(What is not written needs no tearing.)";

    private WriteTerms() {
    }

    static void tell(Book book) {
        nothing(book);
        order(book);
        sequence(book);
        tear(book);
        noTearing(book);
    }

    private static Run run(Book book, String sentence, String what) {
        return book.run(SECTION, sentence, what);
    }

    private static void nothing(Book book) {
        run(book, NOTHING, "no entries, SEEN 0, on a new card").cards(1).passes("gate(0)").due("written(0)", 0)
                .due("carries(0, 0)", 0).due("carries(0, 2)", 0).due("word(0, 1, 0)", 0);
        run(book, NOTHING, "the same at the gate").cards(2).make("revoke(1)", "gate(0)").due("written(0)", 5)
                .passes("gate(0)").due("written(0)", 5).due("carries(0, 0)", 1).due("word(0, 0, 0)", 0);
        run(book, NOTHING, "the same at a door").cards(2).make("revoke(1)", "gate(0)", "show(0, 0, 0)")
                .due("written(0)", 5).make("show(0, 199, 0)", "show(0, 0, 0)").due("written(0)", 5);
        run(book, NOTHING, "the same 40, twice").cards(42).revoked(0, 41).make("gate(41)", "gate(41)", "show(41, 0, 0)")
                .due("written(41)", 44);
        run(book, NOTHING, "the same run, but another SEEN").cards(3).make("revoke(2)").brings(0, 0)
                .make("show(1, 0, 0)").due("written(1)", 5).answers("carries(1, #)", 1, 1, 1, 0)
                .passes("gate(1)").due("written(1)", 10).answers("carries(1, #)", 0, 1, 1, 1);
        run(book, NOTHING, "the same SEEN, but another run").cards(4).make("revoke(2)", "gate(1)", "revoke(3)")
                .brings(0, 0).due("written(1)", 5).make("show(1, 0, 0)").due("written(1)", 11)
                .answers("carries(1, #)", 0, 2, 1, 1);
        run(book, NOTHING, "the same count, but another FIRST").cards(44).revoked(0, 41).make("gate(43)")
                .revoked(41, 42).make("gate(42)", "show(42, 0, 0)", "show(43, 0, 0)")
                .due("written(43)", 88).answers("carries(43, #)", 0, 40, 3, 41);
    }

    /** How many words were kept tells which ones go first. */
    private static void order(Book book) {
        int[] after = {256 + 2, 1, 2, 4, 3, 256 + 2};
        int[] place = {0, 1, 2, 3, 4, 43};
        for (int keep = 0; keep <= 6; keep++) {
            Run run = run(book, ORDER, "torn after " + keep + " of 6 words").cards(5)
                    .make("revoke(4)", "revoke(3)", "tear(0, " + keep + ")", "gate(0)");
            for (int i = 0; i < 6; i++) {
                run.due("word(0, 1, " + place[i] + ")", i < keep ? after[i] : 0);
            }
            run.eachDue(0, 44, "word(0, 0, #)", 0).due("written(0)", keep);
        }
        run(book, ORDER, "the image that is not current, in turn").cards(4)
                .make("revoke(1)", "gate(0)").due("word(0, 0, 0)", 0).due("word(0, 1, 0)", 257)
                .make("revoke(2)", "gate(0)").due("word(0, 0, 0)", 514).due("word(0, 1, 0)", 257)
                .make("revoke(3)", "gate(0)").due("word(0, 0, 0)", 514).due("word(0, 1, 0)", 771);
    }

    private static void sequence(Book book) {
        run(book, ORDER, "a torn write does not use up its sequence number").cards(3)
                .make("revoke(1)", "tear(0, 4)", "gate(0)").due("word(0, 1, 0)", 257).due("carries(0, 0)", 0)
                .make("revoke(2)", "gate(0)").due("word(0, 1, 0)", 258).due("word(0, 1, 43)", 258)
                .due("carries(0, 0)", 1).due("written(0)", 10);
        Run run = run(book, ORDER, "behind 255 comes 0, behind 0 comes 1").beyond512().cards(258);
        for (int n = 1; n <= 255; n++) {
            run.make("revoke(" + n + ")", "gate(0)");
        }
        run.due("word(0, 1, 0)", -256 + 40)
                .make("revoke(256)", "tear(0, 43)", "gate(0)").due("word(0, 0, 0)", 40).due("carries(0, 0)", 1)
                .make("gate(0)").due("word(0, 0, 0)", 40).due("word(0, 0, 43)", 40).due("carries(0, 0)", 0)
                .make("revoke(257)", "gate(0)").due("word(0, 1, 0)", 256 + 40).due("carries(0, 0)", 1);
    }

    private static void tear(Book book) {
        run(book, TEAR, "no word").cards(2).make("revoke(1)", "tear(0, 0)", "gate(0)").due("written(0)", 0)
                .due("word(0, 1, 0)", 0).due("carries(0, 1)", 0).passes("gate(0)").due("written(0)", 5)
                .due("carries(0, 1)", 1);
        run(book, TEAR, "all but one, all, and one above all").cards(5).make("revoke(4)")
                .make("tear(0, 4)", "tear(1, 5)", "tear(2, 6)", "gate(0)", "gate(1)", "gate(2)")
                .due("written(0)", 4).due("written(1)", 5).due("written(2)", 5)
                .due("carries(0, 0)", 0).due("carries(1, 0)", 1).due("carries(2, 0)", 1)
                .due("word(2, 1, 4)", 0).due("word(2, 1, 5)", 0);
        Run run = run(book, TEAR, "43, 44, 45 and 50 of the most words there are").cards(45).revoked(0, 40);
        int[] keep = {43, 44, 45, 50};
        for (int i = 0; i < keep.length; i++) {
            int card = 41 + i;
            run.make("tear(" + card + ", " + keep[i] + ")", "gate(" + card + ")")
                    .due("written(" + card + ")", i == 0 ? 43 : 44).due("carries(" + card + ", 0)", i == 0 ? 0 : 1)
                    .due("word(" + card + ", 1, 42)", 39).due("word(" + card + ", 1, 43)", i == 0 ? 0 : 296);
        }
        run(book, TEAR, "the next write is whole, behind a torn one").cards(3)
                .make("revoke(1)", "tear(0, 1)", "gate(0)")
                .passes("gate(0)").due("written(0)", 6).due("carries(0, 1)", 1)
                .make("revoke(2)", "gate(0)").due("written(0)", 12).due("carries(0, 1)", 2);
        run(book, TEAR, "the next write is whole, behind one with words enough").cards(44).make("revoke(0)")
                .make("tear(43, 5)", "gate(43)").due("written(43)", 5).revoked(1, 40).make("gate(43)")
                .due("written(43)", 49).due("carries(43, 1)", 40);
        run(book, TEAR, "at a door as at the gate").cards(3).make("revoke(2)").brings(0, 0)
                .make("tear(1, 4)").due("show(1, 0, 0)", 0).due("written(1)", 4).due("carries(1, 1)", 0)
                .due("show(1, 0, 0)", 0).due("written(1)", 9).due("carries(1, 1)", 1);
    }

    private static void noTearing(Book book) {
        run(book, NO_TEARING, "the gate had no entries").cards(2).make("tear(0, 2)", "gate(0)").due("written(0)", 0)
                .make("revoke(1)", "gate(0)").due("written(0)", 2).due("carries(0, 1)", 0);
        run(book, NO_TEARING, "the door had no entries").cards(2).make("tear(0, 0)", "show(0, 0, 0)")
                .make("revoke(1)", "gate(0)").due("written(0)", 0).make("gate(0)").due("written(0)", 5);
        run(book, NO_TEARING, "the gate had nothing new").cards(3).make("revoke(1)", "gate(0)", "tear(0, 1)", "gate(0)")
                .due("written(0)", 5).make("revoke(2)", "gate(0)").due("written(0)", 6).due("carries(0, 1)", 1)
                .make("gate(0)").due("written(0)", 12).due("carries(0, 1)", 2);
        run(book, NO_TEARING, "the door had nothing new").cards(3).make("revoke(1)", "gate(0)", "tear(0, 1)")
                .make("show(0, 0, 0)", "show(0, 199, 0)").due("written(0)", 5)
                .make("revoke(2)", "gate(0)").due("written(0)", 6).due("carries(0, 1)", 1);
    }
}
