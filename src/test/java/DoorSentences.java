/** Promises 7, 8 and 14 to 18, sentence by sentence: zoneOf, show, about, run, refuses, reach, loseBattery. */
final class DoorSentences {
    private DoorSentences() {
    }

    static void tell(Book book) {
        zoneOf(book);
        zoneOfRefused(book);
        show(book);
        aboutComplete(book);
        aboutGreatest(book);
        aboutHeard(book);
        aboutCounts(book);
        aboutRefused(book);
        run(book);
        runRefused(book);
        refuses(book);
        reach(book);
        loseBattery(book);
    }

    private static void zoneOf(Book book) {
        String promise = "Promise 7: zoneOf";
        String sentence = "A door's zone.";
        book.run(promise, sentence, "the first door and the last one, zones 0 and 31")
                .make("issue(1, 0)", "issue(MIN, 0)").passes("zoneOf(0, 31)", "zoneOf(199, 0)")
                .due("show(0, 0, 0)", 3).due("show(1, 0, 0)", 0).due("show(0, 199, 0)", 0).due("show(1, 199, 0)", 3);
        book.run(promise, sentence, "the doors beside it stay in zone 0").make("issue(1, 0)").passes("zoneOf(100, 1)")
                .due("show(0, 99, 0)", 0).due("show(0, 100, 0)", 3).due("show(0, 101, 0)", 0);
        book.run(promise, sentence, "set twice: the later one").make("issue(4, 0)")
                .passes("zoneOf(0, 1)", "zoneOf(0, 2)")
                .due("show(0, 0, 0)", 0);
        book.run(promise, sentence, "set back to 0").make("issue(1, 0)").passes("zoneOf(0, 31)", "zoneOf(0, 0)")
                .due("show(0, 0, 0)", 0);
    }

    private static void zoneOfRefused(Book book) {
        String promise = "Promise 7: zoneOf";
        book.run(promise, "IndexOutOfBoundsException;", "before the first door, behind the last one")
                .noSuch("zoneOf(-1, 0)", "zoneOf(200, 0)", "zoneOf(MIN, 31)", "zoneOf(MAX, 31)")
                .noSuch("zoneOf(200, 32)", "zoneOf(-1, -1)");
        book.run(promise, "IllegalArgumentException when there is no such zone;", "-1 and 32").make("issue(2, 0)")
                .passes("zoneOf(0, 1)")
                .badArgument("zoneOf(0, -1)", "zoneOf(0, 32)", "zoneOf(0, MIN)", "zoneOf(0, MAX)")
                .due("show(0, 0, 0)", 0).badArgument("zoneOf(0, -1)", "zoneOf(0, 32)");
        String state = "IllegalStateException when a card was shown there already.";
        book.run(promise, state, "a card that is admitted").make("issue(1, 0)").passes("zoneOf(0, 0)")
                .due("show(0, 0, 0)", 0).badState("zoneOf(0, 0)", "zoneOf(0, 31)").due("show(0, 0, 0)", 0);
        book.run(promise, state, "cards that are not").make("issue(0, 0)", "issue(-1, 0)", "revoke(1)", "gate(1)")
                .due("show(0, 0, 0)", 3).due("show(0, 1, 1)", 2).due("show(1, 2, 0)", 1)
                .badState("zoneOf(0, 1)", "zoneOf(1, 1)", "zoneOf(2, 1)").passes("zoneOf(3, 1)");
        book.run(promise, state, "a visit counts when it is made").cards(1).make("visit(0, 0, 5, 0)")
                .passes("zoneOf(5, 1)").due("spread(0)", 0).passes("zoneOf(5, 2)").due("spread(1)", 1)
                .badState("zoneOf(5, 1)");
        book.run(promise, state, "a refused card was not shown").cards(1)
                .noSuch("show(1, 5, 0)", "show(-1, 5, 0)").passes("zoneOf(5, 1)");
        book.run(promise, state, "a new battery changes nothing about that").cards(1).make("show(0, 5, 0)")
                .passes("loseBattery(5)").badState("zoneOf(5, 1)");
    }

    private static void show(Book book) {
        String promise = "Promise 8: show";
        String sentence = "A card is shown at a door on a day: ADMITTED, REVOKED, ENDED, NO_RIGHT.";
        book.run(promise, sentence, "the first card and the last one, at the first door and the last one").cards(3)
                .due("show(0, 0, 0)", 0).due("show(2, 0, 0)", 0).due("show(0, 199, 0)", 0).due("show(2, 199, 0)", 0);
        book.run(promise, sentence, "ADMITTED on the end day, ENDED behind it").make("issue(1, 7)")
                .due("show(0, 0, 7)", 0).due("show(0, 0, 8)", 2);
        book.run(promise, sentence, "NO_RIGHT on the end day, ENDED behind it").make("issue(0, 7)")
                .due("show(0, 0, 7)", 3).due("show(0, 0, 8)", 2);
        book.run(promise, sentence, "REVOKED when the entry comes, not before").make("issue(1, 7)", "issue(1, 7)")
                .make("revoke(0)").due("show(0, 0, 7)", 0).due("show(0, 0, 8)", 2)
                .make("gate(1)", "show(1, 0, 7)").due("show(0, 0, 7)", 1).due("show(0, 0, 8)", 1);
        book.run(promise, sentence, "a door with entries shows them to a card, a door without does not").cards(3)
                .make("revoke(2)", "show(1, 0, 0)").due("written(1)", 0).brings(0, 0).due("show(1, 0, 0)", 0)
                .due("written(1)", 5).due("show(1, 1, 0)", 0).due("reach(1)", 2);
        String index = "IndexOutOfBoundsException.";
        book.run(promise, index, "no such card").noSuch("show(0, 0, 0)").cards(2).make("revoke(0)", "gate(1)")
                .noSuch("show(-1, 0, 0)", "show(2, 0, 0)", "show(MIN, 0, 0)", "show(MAX, 0, 0)").due("reach(1)", 0);
        book.run(promise, index, "no such door").cards(2).make("revoke(0)", "gate(1)")
                .noSuch("show(1, -1, 0)", "show(1, 200, 0)", "show(1, MIN, 0)", "show(1, MAX, 0)").due("reach(1)", 0)
                .due("written(1)", 5);
    }

    private static Run about(Book book, String what) {
        return book.run("Promise 14: about", "Of a door: what = 0 COMPLETE, 1 the greatest entry it has, or HEARD, if "
                + "that is greater, 2 by how much HEARD is above COMPLETE (0 if it is not), 3 how many entries it has, "
                + "4 how many runs of consecutive ones.", what);
    }

    private static void aboutComplete(Book book) {
        about(book, "0: no entries").answers("about(0, #)", 0, 0, 0, 0, 0).answers("about(199, #)", 0, 0, 0, 0, 0);
        about(book, "0: one entry, all entries").cards(3).make("revoke(0)").brings(2, 0).due("about(0, 0)", 1)
                .make("revoke(1)").due("about(0, 0)", 1).brings(2, 0).due("about(0, 0)", 2);
        about(book, "0: the lowest one is missing").cards(43).revoked(0, 41).brings(42, 0).due("about(0, 0)", 0);
        about(book, "0: all of 41, with the lowest one from another card").cards(44).make("revoke(0)").brings(43, 0)
                .revoked(1, 41).brings(42, 0).due("about(0, 0)", 41);
    }

    private static void aboutGreatest(Book book) {
        about(book, "1: no entries and HEARD 0").cards(1).make("revoke(0)", "show(0, 0, 0)").due("about(0, 1)", 0);
        about(book, "1: the greatest entry, HEARD is the same").cards(43).revoked(0, 42).brings(42, 0)
                .due("about(0, 1)", 42);
        about(book, "1: the greatest entry, HEARD is lower").cards(3).make("revoke(0)").brings(1, 0)
                .make("show(2, 0, 0)", "show(2, 1, 0)").due("about(1, 1)", 1).due("carries(2, 3)", 0);
        about(book, "1: not the entry that came last").cards(46).make("revoke(0)", "gate(44)").revoked(1, 43)
                .brings(45, 0).make("show(44, 0, 0)").due("about(0, 1)", 43);
        about(book, "1: the greatest entry without battery").cards(2).make("revoke(0)").brings(1, 0)
                .make("loseBattery(0)").due("about(0, 1)", 1);
    }

    private static void aboutHeard(Book book) {
        about(book, "2: HEARD and COMPLETE are the same").cards(42).revoked(0, 40).brings(41, 0).due("about(0, 2)", 0);
        about(book, "2: HEARD above COMPLETE, by all").cards(43).revoked(0, 41).brings(42, 0).due("about(0, 2)", 41);
        about(book, "2: HEARD above COMPLETE, not by all").cards(44).make("revoke(0)").brings(43, 0).revoked(1, 42)
                .brings(42, 0).due("about(0, 0)", 1).due("about(0, 2)", 41).due("about(0, 4)", 2);
        about(book, "2: HEARD above COMPLETE by 1, then the same").cards(46).make("revoke(0)", "gate(43)", "gate(44)")
                .revoked(1, 42).brings(45, 0).make("show(44, 0, 0)", "show(44, 1, 0)")
                .due("about(1, 0)", 0).due("about(1, 2)", 1).make("show(43, 1, 0)")
                .due("about(1, 0)", 1).due("about(1, 2)", 0);
        about(book, "2: HEARD below COMPLETE is 0, not less").cards(4).make("revoke(0)", "gate(3)")
                .make("revoke(1)").brings(2, 0).make("loseBattery(0)").due("about(0, 0)", 2).due("about(0, 2)", 0)
                .make("show(3, 0, 0)").due("about(0, 2)", 0);
    }

    private static void aboutCounts(Book book) {
        about(book, "3 and 4: none, one, 40, 41 entries").cards(44).due("about(0, 3)", 0).due("about(0, 4)", 0)
                .make("revoke(0)").brings(43, 0).due("about(0, 3)", 1).due("about(0, 4)", 1)
                .revoked(1, 40).brings(43, 0).due("about(0, 3)", 40).due("about(0, 4)", 1)
                .revoked(40, 41).brings(43, 0).due("about(0, 3)", 41).due("about(0, 4)", 1);
        about(book, "4: two runs with one entry missing between them, then one").cards(46).make("revoke(0)", "gate(43)")
                .make("revoke(1)", "gate(44)").revoked(2, 42).brings(45, 0).due("about(0, 4)", 1)
                .make("show(43, 0, 0)").due("about(0, 3)", 41).due("about(0, 4)", 2)
                .make("show(44, 0, 0)").due("about(0, 3)", 42).due("about(0, 4)", 1);
    }

    private static void aboutRefused(Book book) {
        String promise = "Promise 14: about";
        book.run(promise, "IndexOutOfBoundsException;", "before the first door, behind the last one")
                .noSuch("about(-1, 0)", "about(200, 0)", "about(-1, 4)", "about(200, 4)", "about(MIN, 0)")
                .noSuch("about(MAX, 0)", "about(-1, -1)", "about(200, 5)");
        book.run(promise, "IllegalArgumentException when what is none of these.", "-1 and 5").cards(2).make("revoke(0)")
                .brings(1, 0).badArgument("about(0, -1)", "about(0, 5)", "about(199, -1)", "about(199, 5)")
                .badArgument("about(0, MIN)", "about(0, MAX)").due("about(0, 0)", 1).due("about(0, 4)", 1);
    }

    private static Run runs(Book book, String what) {
        return book.run("Promise 15: run", "Of run i of a door's entries, from the lowest on: its first, or else its "
                + "last entry.", what);
    }

    private static void run(Book book) {
        runs(book, "a single entry is the first and the last one").cards(2).make("revoke(0)").brings(1, 0)
                .due("run(0, 0, true)", 1).due("run(0, 0, false)", 1);
        runs(book, "the lowest run and the highest one, at the last door").cards(90).make("revoke(0)").brings(89, 199)
                .revoked(1, 42).brings(89, 199).revoked(42, 84).brings(89, 199).due("about(199, 4)", 3)
                .due("run(199, 0, true)", 1).due("run(199, 0, false)", 1)
                .due("run(199, 1, true)", 3).due("run(199, 1, false)", 42)
                .due("run(199, 2, true)", 45).due("run(199, 2, false)", 84);
        runs(book, "from the lowest on, though the highest came first").cards(46).make("revoke(0)", "gate(44)")
                .revoked(1, 42).brings(45, 0).due("run(0, 0, true)", 3).make("show(44, 0, 0)")
                .due("run(0, 0, true)", 1).due("run(0, 0, false)", 1).due("run(0, 1, true)", 3)
                .due("run(0, 1, false)", 42);
        runs(book, "more entries than a card carries").cards(44).revoked(0, 40).brings(43, 0).revoked(40, 42)
                .brings(43, 0).due("run(0, 0, true)", 1).due("run(0, 0, false)", 42);
    }

    private static void runRefused(Book book) {
        String promise = "Promise 15: run";
        String index = "IndexOutOfBoundsException.";
        book.run(promise, index, "no such door").cards(2).make("revoke(0)").brings(1, 0).brings(1, 199)
                .noSuch("run(-1, 0, true)", "run(200, 0, true)", "run(MIN, 0, false)", "run(MAX, 0, false)");
        book.run(promise, index, "no runs").noSuch("run(0, 0, true)", "run(0, 0, false)", "run(0, -1, true)");
        book.run(promise, index, "before the first run, behind the last one").cards(90).make("revoke(0)").brings(89, 0)
                .revoked(1, 42).brings(89, 0).due("about(0, 4)", 2)
                .noSuch("run(0, -1, true)", "run(0, -1, false)", "run(0, 2, true)", "run(0, 2, false)")
                .noSuch("run(0, MIN, true)", "run(0, MAX, false)")
                .due("run(0, 0, true)", 1).due("run(0, 1, false)", 42);
    }

    private static void refuses(Book book) {
        String promise = "Promise 16: refuses";
        String sentence = "Whether a card is REVOKED at a door.";
        book.run(promise, sentence, "no entries").cards(1).due("refuses(0, 0)", false).due("refuses(199, 0)", false);
        book.run(promise, sentence, "first and last card, first and last door").cards(4).make("revoke(0)", "revoke(3)")
                .brings(1, 0).brings(1, 199).due("refuses(0, 0)", true).due("refuses(0, 3)", true)
                .due("refuses(199, 0)", true).due("refuses(199, 3)", true).due("refuses(0, 1)", false)
                .due("refuses(199, 2)", false).due("refuses(1, 0)", false).due("refuses(198, 3)", false);
        book.run(promise, sentence, "an ended card without rights is not REVOKED").make("issue(0, MIN)")
                .due("show(0, 0, MAX)", 2).due("refuses(0, 0)", false);
        book.run(promise, sentence, "asking shows no card").cards(1).due("refuses(0, 0)", false).passes("zoneOf(0, 1)");
        String index = "IndexOutOfBoundsException.";
        book.run(promise, index, "no such door").cards(1).noSuch("refuses(-1, 0)", "refuses(200, 0)")
                .noSuch("refuses(MIN, 0)", "refuses(MAX, 0)");
        book.run(promise, index, "no such card").noSuch("refuses(0, 0)").cards(2)
                .noSuch("refuses(0, -1)", "refuses(0, 2)", "refuses(0, MIN)", "refuses(0, MAX)", "refuses(200, 2)");
    }

    private static void reach(Book book) {
        String promise = "Promise 17: reach";
        String sentence = "How many doors have an entry.";
        book.run(promise, sentence, "none, one, the same one again, two").cards(2).make("revoke(0)").due("reach(1)", 0)
                .brings(1, 0).due("reach(1)", 1).make("show(1, 0, 0)").due("reach(1)", 1)
                .make("show(1, 199, 0)").due("reach(1)", 2);
        book.run(promise, sentence, "199 doors, and all 200").cards(2).make("revoke(0)", "gate(1)")
                .each(0, 199, "show(1, #, 0)").due("reach(1)", 199).make("show(1, 199, 0)").due("reach(1)", 200);
        book.run(promise, sentence, "the entry before the last 40").cards(43).revoked(0, 41).brings(42, 0)
                .due("reach(1)", 0).due("reach(2)", 1).due("reach(41)", 1);
        String index = "IndexOutOfBoundsException.";
        book.run(promise, index, "no entries").noSuch("reach(0)", "reach(1)", "reach(-1)");
        book.run(promise, index, "before the first entry, behind the last one").cards(2).make("revoke(0)", "revoke(1)")
                .noSuch("reach(0)", "reach(3)", "reach(-1)", "reach(MIN)", "reach(MAX)").due("reach(1)", 0)
                .due("reach(2)", 0);
        book.run(promise, index, "3000 entries").beyond512().cards(3000).revoked(0, 3000).due("reach(3000)", 0)
                .noSuch("reach(3001)", "reach(0)");
    }

    private static void loseBattery(Book book) {
        String promise = "Promise 18: loseBattery";
        String sentence = "A door's battery is gone, and a new one comes: HEARD is 0; zone and entries are kept.";
        book.run(promise, sentence, "HEARD is 0, at this door alone").cards(44).revoked(0, 41).brings(43, 0)
                .brings(43, 1).brings(43, 199).due("about(0, 2)", 41).passes("loseBattery(0)", "loseBattery(199)")
                .due("about(0, 2)", 0).due("about(199, 2)", 0).due("about(1, 2)", 41);
        book.run(promise, sentence, "HEARD comes anew, lower than before").cards(46).revoked(0, 41).make("gate(44)")
                .revoked(41, 43).brings(45, 0).due("about(0, 2)", 43).passes("loseBattery(0)").due("about(0, 2)", 0)
                .make("show(44, 0, 0)").due("about(0, 0)", 0).due("about(0, 2)", 41);
        book.run(promise, sentence, "the zone is kept").make("issue(MIN, 0)", "issue(1, 0)").passes("zoneOf(0, 31)")
                .passes("loseBattery(0)").due("show(0, 0, 0)", 0).due("show(1, 0, 0)", 3).passes("loseBattery(0)")
                .due("show(0, 0, 0)", 0).due("show(1, 0, 0)", 3);
        book.run(promise, sentence, "entries are kept").cards(44).revoked(0, 41).brings(43, 0).passes("loseBattery(0)")
                .due("about(0, 1)", 41).due("about(0, 3)", 40).due("about(0, 4)", 1).due("run(0, 0, true)", 2)
                .due("run(0, 0, false)", 41).due("refuses(0, 1)", true).due("reach(41)", 1).due("show(1, 0, 0)", 1)
                .due("carries(1, 1)", 40);
        book.run(promise, sentence, "a door that saw no card, and twice").passes("loseBattery(0)", "loseBattery(0)")
                .answers("about(0, #)", 0, 0, 0, 0, 0).passes("zoneOf(0, 1)");
        book.run(promise, "IndexOutOfBoundsException.", "before the first door, behind the last one").cards(44)
                .revoked(0, 41).brings(43, 0).make("show(43, 199, 0)")
                .noSuch("loseBattery(-1)", "loseBattery(200)", "loseBattery(MIN)", "loseBattery(MAX)")
                .due("about(0, 2)", 41).due("about(199, 2)", 41);
    }
}
