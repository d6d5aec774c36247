/** The section 'Terms': the gate's numbers, a card and its two images, the current image, a run. */
final class CardTerms {
    private static final String SECTION = "Terms";
    private static final String CARDS = "THE GATE issues CARDS, numbered from 0 on, at most 4000, "
            + "each with a mask of 32 zones and an end day,";
    private static final String ENTRIES = "and makes ENTRIES, numbered from 1 on, at most 3000: an entry says that a "
            + "card is revoked; no card has two.";
    private static final String IMAGES = "A CARD has two IMAGES, 0 and 1, of 44 words of 16 bits, all 0 at first:";
    private static final String HEAD = "word 0 is the HEAD: 256 times a sequence number (0 .. 255) and a count "
            + "(0 .. 40);";
    private static final String WORDS = "word 1 FIRST, word 2 SEEN; words 3 .. the numbers of cards, as many as the "
            + "count; word 43 the TAIL.";
    private static final String WHOLE = "An image is WHOLE when HEAD and TAIL are the same.";
    private static final String CURRENT = "The CURRENT image: the one that is WHOLE; of two, image 1 if its sequence "
            + "number less that of image 0, as a byte with sign, is above 0, otherwise image 0.";
    private static final String RUN = "The current image tells the card's RUN: as many entries as the count says, "
            + "numbered from FIRST on, each for the card of that number; and SEEN.";

    private CardTerms() {
    }

    static void tell(Book book) {
        cards(book);
        entries(book);
        images(book);
        heads(book);
        headsWithSign(book);
        headBehind255(book);
        words(book);
        whole(book);
        current(book);
        currentWithSign(book);
        run(book);
    }

    private static Run run(Book book, String sentence, String what) {
        return book.run(SECTION, sentence, what);
    }

    private static void cards(Book book) {
        run(book, CARDS, "the first card is 0").noSuch("written(0)").due("issue(0, 0)", 0).due("written(0)", 0)
                .noSuch("written(1)").due("issue(0, 0)", 1).due("written(1)", 0);
        run(book, CARDS, "the last card is 3999").beyond512().each(0, 3999, "issue(0, 0)")
                .noSuch("written(3999)").due("issue(0, 0)", 3999).due("written(3999)", 0)
                .badState("issue(0, 0)").noSuch("written(4000)").due("cards()", 4000);
        run(book, CARDS, "no zone, and all 32").make("issue(0, 0)", "issue(-1, 0)", "zoneOf(1, 31)", "zoneOf(2, 16)")
                .due("show(0, 0, 0)", 3).due("show(0, 1, 0)", 3).due("show(0, 2, 0)", 3)
                .due("show(1, 0, 0)", 0).due("show(1, 1, 0)", 0).due("show(1, 2, 0)", 0);
        run(book, CARDS, "the lowest end day, and the highest").make("issue(-1, MIN)", "issue(-1, MAX)")
                .due("show(0, 0, MIN)", 0).due("show(0, 0, -2147483647)", 2).due("show(0, 0, MAX)", 2)
                .due("show(1, 0, MIN)", 0).due("show(1, 0, MAX)", 0);
    }

    private static void entries(Book book) {
        run(book, ENTRIES, "the first entry is 1").cards(2).noSuch("reach(0)", "reach(1)").due("revoke(1)", 1)
                .noSuch("reach(0)").due("reach(1)", 0).noSuch("reach(2)").due("revoke(0)", 2).due("reach(2)", 0);
        run(book, ENTRIES, "the last entry is 3000").beyond512().cards(3001).revoked(0, 2999)
                .noSuch("reach(3000)").due("revoke(2999)", 3000).due("reach(3000)", 0)
                .badState("revoke(3000)").noSuch("reach(3001)").due("entries()", 3000);
        run(book, ENTRIES, "no second entry for the first card, for the last one").cards(3)
                .due("revoke(0)", 1).due("revoke(2)", 2).due("revoke(0)", -1).due("revoke(2)", -1)
                .due("entries()", 2).due("revoke(1)", 3);
    }

    private static void images(Book book) {
        run(book, IMAGES, "images 0 and 1, and no others").cards(1)
                .due("word(0, 0, 0)", 0).due("word(0, 1, 0)", 0).noSuch("word(0, -1, 0)", "word(0, 2, 0)");
        run(book, IMAGES, "words 0 .. 43, and no others").cards(1)
                .noSuch("word(0, 0, -1)", "word(0, 0, 44)", "word(0, 1, -1)", "word(0, 1, 44)");
        run(book, IMAGES, "all of them 0 at first").cards(2)
                .eachDue(0, 44, "word(1, 0, #)", 0).eachDue(0, 44, "word(1, 1, #)", 0);
        // card 300 needs more than one byte of a word
        run(book, IMAGES, "a number beyond 8 bits").each(0, 301, "issue(-1, 0)").make("revoke(300)", "gate(0)")
                .due("word(0, 1, 3)", 300).due("memory(0, 0)", 300);
        run(book, IMAGES, "the greatest number of a card").beyond512().each(0, 4000, "issue(-1, 0)")
                .make("revoke(3999)", "gate(3999)").due("word(3999, 1, 3)", 3999).due("memory(3999, 0)", 3999);
    }

    private static void heads(Book book) {
        run(book, HEAD, "the first sequence number, count 0: a new card").cards(1)
                .due("word(0, 0, 0)", 0).due("word(0, 1, 0)", 0);
        run(book, HEAD, "count 1").cards(2).make("revoke(1)", "gate(0)").due("word(0, 1, 0)", 257);
        run(book, HEAD, "counts 39, 40, and not 41").cards(42)
                .revoked(0, 39).make("gate(41)").due("word(41, 1, 0)", 256 + 39)
                .revoked(39, 40).make("gate(41)").due("word(41, 0, 0)", 512 + 40)
                .revoked(40, 41).make("gate(41)").due("word(41, 1, 0)", 768 + 40);
    }

    /** A card that was written so many times, for the entries 1, 2, 3 .. */
    private static Run written(Run run, int times) {
        run.make("issue(-1, MAX)");
        for (int n = 1; n <= times; n++) {
            writtenOnceMore(run, n);
        }
        return run;
    }

    private static Run writtenOnceMore(Run run, int number) {
        return run.make("issue(-1, MAX)", "revoke(" + number + ")", "gate(0)");
    }

    private static void headsWithSign(Book book) {
        Run run = written(run(book, HEAD, "sequence numbers 127, 128 and 129"), 127);
        run.due("word(0, 1, 0)", 127 * 256 + 40).due("word(0, 1, 43)", 127 * 256 + 40);
        writtenOnceMore(run, 128).due("word(0, 0, 0)", -32768 + 40).due("word(0, 0, 43)", -32768 + 40);
        writtenOnceMore(run, 129).due("word(0, 1, 0)", -32768 + 256 + 40).due("carries(0, 1)", 40);
    }

    private static void headBehind255(Book book) {
        Run run = written(run(book, HEAD, "sequence numbers 255, 0 and 1").beyond512(), 255);
        run.due("word(0, 1, 0)", -256 + 40);
        writtenOnceMore(run, 256).due("word(0, 0, 0)", 40).due("word(0, 0, 43)", 40);
        writtenOnceMore(run, 257).due("word(0, 1, 0)", 256 + 40);
    }

    private static void words(Book book) {
        run(book, WORDS, "one number: the words up to TAIL stay").cards(8).make("revoke(7)", "gate(0)")
                .answers("word(0, 1, #)", 257, 1, 1, 7).eachDue(4, 43, "word(0, 1, #)", 0).due("word(0, 1, 43)", 257)
                .eachDue(0, 44, "word(0, 0, #)", 0);
        Run run = run(book, WORDS, "40 numbers: no word between the last one and TAIL").cards(43).revoked(0, 42)
                .make("gate(42)").due("word(42, 1, 0)", 296).due("word(42, 1, 1)", 3).due("word(42, 1, 2)", 42);
        for (int k = 0; k < 40; k++) {
            run.due("word(42, 1, " + (3 + k) + ")", 2 + k);
        }
        run.due("word(42, 1, 43)", 296);
    }

    private static void whole(Book book) {
        run(book, WHOLE, "all but TAIL").cards(2).make("revoke(1)", "tear(0, 4)", "gate(0)")
                .due("word(0, 1, 0)", 257).due("word(0, 1, 43)", 0).due("carries(0, 0)", 0).due("carries(0, 1)", 0);
        run(book, WHOLE, "TAIL too").cards(2).make("revoke(1)", "tear(0, 5)", "gate(0)")
                .due("word(0, 1, 0)", 257).due("word(0, 1, 43)", 257).due("carries(0, 0)", 1);
        run(book, WHOLE, "HEAD alone").cards(2).make("revoke(1)", "tear(0, 1)", "gate(0)")
                .due("word(0, 1, 0)", 257).due("word(0, 1, 43)", 0).due("carries(0, 0)", 0);
        run(book, WHOLE, "no word at all: both stay whole").cards(3).make("revoke(1)", "gate(0)", "revoke(2)")
                .make("tear(0, 0)", "gate(0)").due("word(0, 0, 0)", 0).due("word(0, 0, 43)", 0)
                .due("carries(0, 0)", 1).due("carries(0, 1)", 1);
        run(book, WHOLE, "a TAIL of an older write").cards(4).make("revoke(1)", "gate(0)", "revoke(2)", "gate(0)")
                .make("revoke(3)", "tear(0, 6)", "gate(0)").due("word(0, 1, 0)", 771).due("word(0, 1, 43)", 257)
                .answers("carries(0, #)", 0, 2, 1, 2);
    }

    private static void current(Book book) {
        run(book, CURRENT, "the same sequence numbers: a new card").cards(1).due("carries(0, 0)", 0);
        run(book, CURRENT, "image 1 is one above, then image 0, then image 1").cards(4)
                .make("revoke(1)", "gate(0)").due("carries(0, 0)", 1)
                .make("revoke(2)", "gate(0)").due("carries(0, 0)", 0)
                .make("revoke(3)", "gate(0)").due("carries(0, 0)", 1);
        run(book, CURRENT, "image 1 alone is whole, and so it stays").cards(3).make("revoke(1)", "gate(0)", "revoke(2)")
                .make("tear(0, 5)", "gate(0)").due("word(0, 0, 0)", 514).due("word(0, 0, 43)", 0)
                .answers("carries(0, #)", 1, 1, 1, 1);
        run(book, CURRENT, "image 0 alone is whole, and so it stays").cards(3).make("revoke(1)", "revoke(2)")
                .make("tear(0, 5)", "gate(0)").due("word(0, 1, 0)", 258).due("word(0, 1, 43)", 0)
                .answers("carries(0, #)", 0, 0, 0, 0);
    }

    private static void currentWithSign(Book book) {
        Run signed = written(run(book, CURRENT, "127 and 126, 127 and 128, 129 and 128"), 127).due("carries(0, 0)", 1);
        writtenOnceMore(signed, 128).due("carries(0, 0)", 0).due("carries(0, 3)", 128);
        writtenOnceMore(signed, 129).due("carries(0, 0)", 1).due("carries(0, 3)", 129);
        Run round = written(run(book, CURRENT, "255 and 254, 255 and 0, 1 and 0").beyond512(), 255)
                .due("carries(0, 0)", 1);
        writtenOnceMore(round, 256).due("carries(0, 0)", 0).due("carries(0, 3)", 256);
        writtenOnceMore(round, 257).due("carries(0, 0)", 1).due("carries(0, 3)", 257);
        Run torn = written(run(book, CURRENT, "a torn write at 128"), 127).make("tear(0, 43)");
        writtenOnceMore(torn, 128).due("word(0, 0, 0)", -32768 + 40).due("word(0, 0, 43)", 126 * 256 + 40)
                .due("carries(0, 0)", 1).due("carries(0, 3)", 127);
    }

    private static void run(Book book) {
        run(book, RUN, "no entries").cards(1).answers("carries(0, #)", 0, 0, 0, 0)
                .noSuch("memory(0, -1)", "memory(0, 0)");
        run(book, RUN, "one entry").cards(2).make("revoke(0)", "gate(1)").answers("carries(1, #)", 1, 1, 1, 1)
                .due("memory(1, 0)", 0).noSuch("memory(1, -1)", "memory(1, 1)");
        run(book, RUN, "40 entries, not from 1 on").cards(46).revoked(0, 45).make("gate(45)")
                .answers("carries(45, #)", 1, 40, 6, 45).due("memory(45, 0)", 5).due("memory(45, 39)", 44)
                .noSuch("memory(45, -1)", "memory(45, 40)");
        run(book, RUN, "words of a torn write are not told").cards(3).make("revoke(1)", "gate(0)", "revoke(2)")
                .make("tear(0, 5)", "gate(0)").due("word(0, 0, 4)", 2).due("carries(0, 1)", 1).due("carries(0, 3)", 1)
                .due("memory(0, 0)", 1).noSuch("memory(0, 1)");
    }
}
