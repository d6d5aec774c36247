/** Promises 9 to 13, sentence by sentence: tear, written, word, carries, memory. */
final class CardSentences {
    private CardSentences() {
    }

    static void tell(Book book) {
        tear(book);
        tearRefused(book);
        written(book);
        word(book);
        wordRefused(book);
        carries(book);
        carriesRefused(book);
        memory(book);
    }

    private static void tear(Book book) {
        String promise = "Promise 9: tear";
        String sentence = "The next write to a card is torn after so many words.";
        book.run(promise, sentence, "after none").cards(2).make("revoke(1)").passes("tear(0, 0)", "gate(0)")
                .due("written(0)", 0).due("word(0, 1, 0)", 0).passes("gate(0)").due("written(0)", 5);
        book.run(promise, sentence, "after 1, after 2, after the last but one").cards(4).make("revoke(3)")
                .passes("tear(0, 1)", "tear(1, 2)", "tear(2, 4)", "gate(0)", "gate(1)", "gate(2)")
                .due("written(0)", 1).due("written(1)", 2).due("written(2)", 4)
                .due("word(0, 1, 0)", 257).due("word(0, 1, 1)", 0).due("word(1, 1, 1)", 1).due("word(1, 1, 2)", 0)
                .due("word(2, 1, 3)", 3).due("word(2, 1, 43)", 0)
                .due("carries(0, 1)", 0).due("carries(1, 1)", 0).due("carries(2, 1)", 0);
        book.run(promise, sentence, "after the last, and after 50").cards(3).make("revoke(2)")
                .passes("tear(0, 5)", "tear(1, 50)", "gate(0)", "gate(1)").due("written(0)", 5).due("written(1)", 5)
                .due("carries(0, 1)", 1).due("carries(1, 1)", 1);
        book.run(promise, sentence, "the next write alone").cards(3).make("revoke(1)").passes("tear(0, 50)", "gate(0)")
                .make("revoke(2)", "gate(0)").due("written(0)", 11).due("carries(0, 1)", 2);
        book.run(promise, sentence, "said twice: the later one").cards(3).make("revoke(2)")
                .passes("tear(0, 0)", "tear(0, 50)", "tear(1, 50)", "tear(1, 0)", "gate(0)", "gate(1)")
                .due("written(0)", 5).due("written(1)", 0);
        book.run(promise, sentence, "this card alone, the first one and the last one").cards(3).make("revoke(1)")
                .passes("tear(0, 1)", "tear(2, 2)", "gate(1)", "gate(0)", "gate(2)")
                .due("written(0)", 1).due("written(1)", 5).due("written(2)", 2);
        book.run(promise, sentence, "43 and 44 of 44 words").cards(42).revoked(0, 40)
                .passes("tear(40, 43)", "tear(41, 44)", "gate(40)", "gate(41)").due("written(40)", 43)
                .due("written(41)", 44).due("carries(40, 1)", 0).due("carries(41, 1)", 40);
    }

    private static void tearRefused(Book book) {
        String promise = "Promise 9: tear";
        String index = "IndexOutOfBoundsException;";
        book.run(promise, index, "before the first card, behind the last one").noSuch("tear(0, 0)").cards(2)
                .noSuch("tear(-1, 0)", "tear(2, 0)", "tear(MIN, 50)", "tear(MAX, 50)", "tear(2, 51)", "tear(-1, -1)");
        String argument = "IllegalArgumentException when that is below 0 or above 50.";
        book.run(promise, argument, "-1 and 51").cards(2).make("revoke(1)")
                .badArgument("tear(0, -1)", "tear(0, 51)", "tear(0, MIN)", "tear(0, MAX)")
                .passes("gate(0)").due("written(0)", 5);
        book.run(promise, argument, "an earlier tear stays").cards(2).make("revoke(1)").passes("tear(0, 2)")
                .badArgument("tear(0, -1)", "tear(0, 51)").passes("gate(0)").due("written(0)", 2);
    }

    private static void written(Book book) {
        String promise = "Promise 10: written";
        String sentence = "How many words were written to a card in all.";
        book.run(promise, sentence, "none").cards(1).due("written(0)", 0).make("gate(0)", "show(0, 0, 0)")
                .due("written(0)", 0);
        book.run(promise, sentence, "the shortest write, and the longest one").cards(42).make("revoke(0)", "gate(41)")
                .due("written(41)", 5).revoked(1, 40).make("gate(41)").due("written(41)", 5 + 44);
        book.run(promise, sentence, "words of torn writes count").cards(2).make("revoke(1)")
                .make("tear(0, 0)", "gate(0)").due("written(0)", 0).make("tear(0, 1)", "gate(0)").due("written(0)", 1)
                .make("tear(0, 4)", "gate(0)").due("written(0)", 5).make("tear(0, 50)", "gate(0)").due("written(0)", 10)
                .due("carries(0, 1)", 1);
        book.run(promise, sentence, "at the gate and at doors, each card for itself").cards(5)
                .make("revoke(4)", "gate(0)")
                .make("revoke(3)").brings(1, 0).make("show(0, 0, 0)", "show(2, 0, 0)")
                .due("written(0)", 11).due("written(1)", 6).due("written(2)", 6).due("written(3)", 0);
        book.run(promise, "IndexOutOfBoundsException.", "before the first card, behind the last one")
                .noSuch("written(0)").cards(2).noSuch("written(-1)", "written(2)", "written(MIN)", "written(MAX)")
                .due("written(0)", 0).due("written(1)", 0);
    }

    private static void word(Book book) {
        String promise = "Promise 11: word";
        String sentence = "Word i of an image of a card, with sign (-32768 .. 32767).";
        book.run(promise, sentence, "the first word and the last one of both images").cards(3)
                .make("revoke(1)", "gate(0)", "revoke(2)", "gate(0)")
                .due("word(0, 0, 0)", 514).due("word(0, 0, 43)", 514).due("word(0, 1, 0)", 257)
                .due("word(0, 1, 43)", 257)
                .due("word(2, 0, 0)", 0).due("word(2, 1, 43)", 0);
        book.run(promise, sentence, "an image that is not whole").cards(2).make("revoke(1)", "tear(0, 1)", "gate(0)")
                .due("word(0, 1, 0)", 257).due("word(0, 1, 1)", 0).due("word(0, 1, 43)", 0);
        Run run = book.run(promise, sentence, "the last HEAD without sign, and the first one with sign").cards(129);
        for (int n = 1; n <= 127; n++) {
            run.make("revoke(" + n + ")", "gate(0)");
        }
        run.due("word(0, 1, 0)", 32552).due("word(0, 0, 0)", 126 * 256 + 40)
                .make("revoke(128)", "gate(0)").due("word(0, 0, 0)", -32728).due("word(0, 0, 43)", -32728)
                .due("word(0, 1, 43)", 32552);
        Run last = book.run(promise, sentence, "the last HEAD with sign, and HEAD 0 times 256").beyond512().cards(257);
        for (int n = 1; n <= 255; n++) {
            last.make("revoke(" + n + ")", "gate(0)");
        }
        last.due("word(0, 1, 0)", -216).make("revoke(256)", "gate(0)").due("word(0, 0, 0)", 40);
    }

    private static void wordRefused(Book book) {
        String promise = "Promise 11: word";
        String index = "IndexOutOfBoundsException.";
        book.run(promise, index, "no such card").noSuch("word(0, 0, 0)").cards(2)
                .noSuch("word(-1, 0, 0)", "word(2, 0, 0)", "word(MIN, 1, 43)", "word(MAX, 1, 43)");
        book.run(promise, index, "no such image").cards(1)
                .noSuch("word(0, -1, 0)", "word(0, 2, 0)", "word(0, MIN, 43)", "word(0, MAX, 43)");
        book.run(promise, index, "no such word").cards(1)
                .noSuch("word(0, 0, -1)", "word(0, 0, 44)", "word(0, 1, -1)", "word(0, 1, 44)")
                .noSuch("word(0, 0, MIN)", "word(0, 1, MAX)");
    }

    private static void carries(Book book) {
        String promise = "Promise 12: carries";
        String sentence = "Of a card: what = 0 its current image, 1 how many entries its run has, 2 the number of the "
                + "first one (0 for none), 3 SEEN.";
        book.run(promise, sentence, "a new card: image 0, and none").cards(2).answers("carries(0, #)", 0, 0, 0, 0)
                .answers("carries(1, #)", 0, 0, 0, 0);
        book.run(promise, sentence, "one entry, then two").cards(3).make("revoke(0)", "gate(2)")
                .answers("carries(2, #)", 1, 1, 1, 1).make("revoke(1)", "gate(2)").answers("carries(2, #)", 0, 2, 1, 2);
        book.run(promise, sentence, "40 entries from 1 on, then from 2 on").cards(42).revoked(0, 40).make("gate(41)")
                .answers("carries(41, #)", 1, 40, 1, 40).revoked(40, 41).make("gate(41)")
                .answers("carries(41, #)", 0, 40, 2, 41);
        book.run(promise, sentence, "entries, but SEEN 0").cards(3).make("revoke(0)").brings(1, 0).make("show(2, 0, 0)")
                .answers("carries(2, #)", 1, 1, 1, 0);
        book.run(promise, sentence, "none behind a torn first write").cards(2)
                .make("revoke(1)", "tear(0, 4)", "gate(0)")
                .answers("carries(0, #)", 0, 0, 0, 0);
    }

    private static void carriesRefused(Book book) {
        String promise = "Promise 12: carries";
        book.run(promise, "IndexOutOfBoundsException;", "before the first card, behind the last one")
                .noSuch("carries(0, 0)").cards(2).noSuch("carries(-1, 0)", "carries(2, 0)", "carries(-1, 3)")
                .noSuch("carries(2, 3)", "carries(MIN, 0)", "carries(MAX, 0)", "carries(2, 4)", "carries(-1, -1)");
        book.run(promise, "IllegalArgumentException when what is none of these.", "-1 and 4").cards(2)
                .make("revoke(0)", "gate(1)").badArgument("carries(1, -1)", "carries(1, 4)", "carries(0, -1)")
                .badArgument("carries(0, 4)", "carries(1, MIN)", "carries(1, MAX)")
                .answers("carries(1, #)", 1, 1, 1, 1);
    }

    private static void memory(Book book) {
        String promise = "Promise 13: memory";
        String sentence = "The card that entry i (from 0) of a card's run revokes.";
        book.run(promise, sentence, "the first and the last of 3").cards(9)
                .make("revoke(8)", "revoke(0)", "revoke(4)", "gate(1)")
                .due("memory(1, 0)", 8).due("memory(1, 1)", 0).due("memory(1, 2)", 4).noSuch("memory(1, 3)");
        book.run(promise, sentence, "the first and the last of 40").cards(43).revoked(0, 42).make("gate(42)")
                .due("memory(42, 0)", 2).due("memory(42, 39)", 41);
        book.run(promise, sentence, "a card that tells its own entry").cards(1).make("revoke(0)", "gate(0)")
                .due("memory(0, 0)", 0);
        String index = "IndexOutOfBoundsException.";
        book.run(promise, index, "no such card").noSuch("memory(0, 0)").cards(2).make("revoke(0)", "gate(0)", "gate(1)")
                .noSuch("memory(-1, 0)", "memory(2, 0)", "memory(MIN, 0)", "memory(MAX, 0)");
        book.run(promise, index, "no entries").cards(1).noSuch("memory(0, 0)", "memory(0, -1)", "memory(0, 40)");
        book.run(promise, index, "before the first entry, behind the last one").cards(42).make("revoke(0)", "gate(41)")
                .noSuch("memory(41, -1)", "memory(41, 1)", "memory(41, MIN)", "memory(41, MAX)").revoked(1, 40)
                .make("gate(41)").due("memory(41, 39)", 39)
                .noSuch("memory(41, -1)", "memory(41, 40)", "memory(41, 41)");
        book.run(promise, index, "an entry of a torn write").cards(3).make("revoke(1)", "gate(0)", "revoke(2)")
                .make("tear(0, 5)", "gate(0)").due("memory(0, 0)", 1).noSuch("memory(0, 1)");
    }
}
