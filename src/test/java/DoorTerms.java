/** The section 'Terms': a door, COMPLETE, HEARD, a card that is shown, a card at the gate. */
final class DoorTerms {
    private static final String SECTION = "Terms";
    private static final String DOOR = "A DOOR, 0 .. 199, is in a ZONE, 0 .. 31, at first 0.";
    private static final String HAS = "It HAS entries, taken from cards, at first none;";
    private static final String COMPLETE = "COMPLETE is the greatest number up to which it has all,";
    private static final String HEARD = "HEARD the greatest SEEN of all cards that were shown to it (0 at first).";
    private static final String REVOKED = "A card is REVOKED there when it has the entry for it.";
    private static final String TAKES = "A CARD THAT IS SHOWN at a door on a day: the door takes the entries of its "
            + "run, and its SEEN.";
    private static final String JUDGES = "Then it judges: REVOKED; otherwise ENDED, when the end day is before the "
            + "day; otherwise NO RIGHT, when the zone is not in the mask (zone z is the bit of value 2^z); "
            + "otherwise ADMITTED.";
    private static final String WRITES = "Then it writes on the card: of the consecutive entries that it has and that "
            + "end at the greatest one it has, the last 40 (all, if they are fewer), and the card's own SEEN; "
            + "nothing, if it has no entries.";
    private static final String GATE = "AT THE GATE a card gets the last 40 entries (all, if they are fewer) that were "
            + "made, and SEEN becomes how many were made.";

    private DoorTerms() {
    }

    static void tell(Book book) {
        door(book);
        has(book);
        complete(book);
        heard(book);
        revoked(book);
        takes(book);
        judgesByDay(book);
        judgesByZone(book);
        judgesInOrder(book);
        writes(book);
        writesTheLast40(book);
        gate(book);
    }

    private static Run run(Book book, String sentence, String what) {
        return book.run(SECTION, sentence, what);
    }

    private static void door(Book book) {
        run(book, DOOR, "the first door and the last one, and those beyond").cards(1)
                .due("show(0, 0, 0)", 0).due("show(0, 199, 0)", 0).noSuch("show(0, -1, 0)", "show(0, 200, 0)");
        run(book, DOOR, "the first zone and the last one, and those beyond").passes("zoneOf(0, 0)", "zoneOf(0, 31)")
                .badArgument("zoneOf(0, -1)", "zoneOf(0, 32)");
        run(book, DOOR, "at first all doors are in zone 0").make("issue(1, 0)", "issue(-2, 0)")
                .eachDue(0, 200, "show(0, #, 0)", 0).eachDue(0, 200, "show(1, #, 0)", 3);
    }

    private static void has(Book book) {
        Run run = run(book, HAS, "at first none").cards(1).make("revoke(0)");
        for (int door : new int[] {0, 1, 100, 199}) {
            run.due("about(" + door + ", 3)", 0).due("about(" + door + ", 4)", 0).noSuch("run(" + door + ", 0, true)")
                    .due("refuses(" + door + ", 0)", false);
        }
        run.due("reach(1)", 0);
        run(book, HAS, "none from a card that brings none").cards(1).make("revoke(0)", "show(0, 0, 0)")
                .answers("about(0, #)", 0, 0, 0, 0, 0);
        run(book, HAS, "one, and not the door beside it").cards(2).make("revoke(0)").brings(1, 100)
                .due("about(99, 3)", 0).due("about(100, 3)", 1).due("about(101, 3)", 0).due("reach(1)", 1);
        run(book, HAS, "the same one twice counts once").cards(2).make("revoke(0)").brings(1, 0).make("show(1, 0, 0)")
                .due("about(0, 3)", 1).due("reach(1)", 1);
    }

    private static void complete(Book book) {
        run(book, COMPLETE, "no entries").due("about(0, 0)", 0).due("about(199, 0)", 0);
        run(book, COMPLETE, "entry 1 alone").cards(2).make("revoke(0)").brings(1, 0).due("about(0, 0)", 1);
        run(book, COMPLETE, "1 .. 40, all").cards(42).revoked(0, 40).brings(41, 0).due("about(0, 0)", 40);
        run(book, COMPLETE, "2 .. 41: entry 1 is missing, and comes").cards(44).make("revoke(0)", "gate(43)")
                .revoked(1, 41).brings(42, 0).due("about(0, 0)", 0).due("about(0, 3)", 40).due("run(0, 0, true)", 2)
                .make("show(43, 0, 0)").due("about(0, 0)", 41).due("about(0, 4)", 1).due("run(0, 0, true)", 1);
        run(book, COMPLETE, "1 and 3 .. 42: entry 2 is missing, and comes").cards(46).make("revoke(0)", "gate(43)")
                .make("revoke(1)", "gate(44)").revoked(2, 42).brings(45, 0).make("show(43, 0, 0)")
                .due("about(0, 0)", 1).due("about(0, 4)", 2).make("show(44, 0, 0)")
                .due("about(0, 0)", 42).due("about(0, 4)", 1);
        run(book, COMPLETE, "entries that were made, but did not come").cards(4).make("revoke(0)").brings(3, 0)
                .make("revoke(1)", "revoke(2)").due("about(0, 0)", 1);
    }

    /** The entries 11 .. 50 are at a door, so COMPLETE is 0 and about(.., 2) is HEARD itself. */
    private static Run entries11To50(Book book, String what) {
        return run(book, HEARD, what).cards(56).revoked(0, 45).make("gate(54)").revoked(45, 50).make("gate(55)");
    }

    private static void heard(Book book) {
        run(book, HEARD, "0 at first").due("about(0, 1)", 0).due("about(0, 2)", 0).due("about(199, 2)", 0);
        entries11To50(book, "the greater one comes first").make("show(55, 0, 0)").due("about(0, 2)", 50)
                .make("show(54, 0, 0)").due("about(0, 2)", 50);
        entries11To50(book, "the greater one comes last").make("show(54, 0, 0)").due("about(0, 2)", 45)
                .make("show(55, 0, 0)").due("about(0, 2)", 50);
        entries11To50(book, "a card with SEEN 0 brings entries alone").make("show(55, 0, 0)", "show(53, 0, 0)")
                .due("carries(53, 3)", 0).make("show(53, 1, 0)").due("about(1, 2)", 0).due("about(1, 3)", 40);
        entries11To50(book, "SEEN of a card that is not admitted counts too").make("issue(0, MIN)", "gate(56)")
                .due("show(56, 0, MAX)", 2).due("about(0, 2)", 50);
        entries11To50(book, "doors hear for themselves").make("show(55, 0, 0)").due("about(1, 2)", 0);
    }

    private static void revoked(Book book) {
        run(book, REVOKED, "the entry was made, but did not come").cards(2).make("revoke(0)")
                .due("refuses(0, 0)", false).due("show(0, 0, 0)", 0);
        run(book, REVOKED, "the entry came").cards(2).make("revoke(0)").brings(1, 0)
                .due("refuses(0, 0)", true).due("refuses(0, 1)", false).due("refuses(1, 0)", false)
                .due("show(0, 0, 0)", 1).due("show(1, 0, 0)", 0).due("show(0, 1, 0)", 1);
        run(book, REVOKED, "the first of 40 entries, the last, and the one before the first").cards(45).revoked(0, 42)
                .brings(44, 0).due("refuses(0, 1)", false).due("refuses(0, 2)", true).due("refuses(0, 41)", true)
                .due("refuses(0, 42)", false).due("show(1, 0, 0)", 0).due("show(2, 0, 0)", 1).due("show(41, 0, 0)", 1);
    }

    private static void takes(Book book) {
        run(book, TAKES, "no entries").cards(1).make("show(0, 0, 0)").answers("about(0, #)", 0, 0, 0, 0, 0);
        run(book, TAKES, "one entry").cards(2).make("revoke(1)").brings(0, 0).answers("about(0, #)", 1, 1, 0, 1, 1);
        run(book, TAKES, "40 entries").cards(43).revoked(0, 42).brings(42, 0).answers("about(0, #)", 0, 42, 42, 40, 1)
                .due("run(0, 0, true)", 3).due("run(0, 0, false)", 42)
                .due("reach(2)", 0).due("reach(3)", 1).due("reach(42)", 1);
        run(book, TAKES, "before it judges: a card brings its own entry").cards(1).make("revoke(0)", "gate(0)")
                .due("show(0, 0, 0)", 1);
        run(book, TAKES, "the run before a torn write").cards(4).make("revoke(1)", "gate(0)", "revoke(2)")
                .make("tear(0, 5)", "gate(0)", "show(0, 0, 0)").answers("about(0, #)", 1, 1, 0, 1, 1)
                .due("reach(1)", 1).due("reach(2)", 0);
        run(book, TAKES, "nothing of a torn first write").cards(2).make("revoke(1)", "tear(0, 4)", "gate(0)")
                .make("show(0, 0, 0)").answers("about(0, #)", 0, 0, 0, 0, 0);
        run(book, TAKES, "lower entries do not push out higher ones").cards(46).make("revoke(0)", "gate(43)")
                .revoked(1, 42).brings(44, 0).make("show(43, 0, 0)").answers("about(0, #)", 1, 42, 41, 41, 2)
                .due("run(0, 1, true)", 3).due("run(0, 1, false)", 42);
    }

    private static void judgesByDay(Book book) {
        run(book, JUDGES, "the day before the end day, the end day, the day after").make("issue(-1, 10)")
                .due("show(0, 0, 9)", 0).due("show(0, 0, 10)", 0).due("show(0, 0, 11)", 2);
        run(book, JUDGES, "days around 0").make("issue(-1, 0)", "issue(-1, -1)")
                .due("show(0, 0, -1)", 0).due("show(0, 0, 0)", 0).due("show(0, 0, 1)", 2)
                .due("show(1, 0, -2)", 0).due("show(1, 0, -1)", 0).due("show(1, 0, 0)", 2);
        run(book, JUDGES, "the lowest day and the highest").make("issue(-1, MIN)", "issue(-1, MAX)", "issue(-1, 0)")
                .due("show(0, 0, MIN)", 0).due("show(0, 0, MAX)", 2)
                .due("show(1, 0, MIN)", 0).due("show(1, 0, MAX)", 0)
                .due("show(2, 0, MIN)", 0).due("show(2, 0, MAX)", 2);
    }

    private static void judgesByZone(Book book) {
        for (int zone : new int[] {0, 1, 15, 16, 30, 31}) {
            int own = 1 << zone;
            run(book, JUDGES, "zone " + zone + " alone, and all the others")
                    .make("issue(" + own + ", 0)", "issue(" + ~own + ", 0)", "zoneOf(0, " + zone + ")")
                    .due("show(0, 0, 0)", 0).due("show(1, 0, 0)", 3);
        }
        run(book, JUDGES, "no zone").make("issue(0, 0)", "zoneOf(1, 31)").due("show(0, 0, 0)", 3)
                .due("show(0, 1, 0)", 3);
    }

    private static void judgesInOrder(Book book) {
        run(book, JUDGES, "REVOKED, ENDED and NO RIGHT all fit")
                .make("issue(0, 5)", "issue(-1, 5)", "revoke(0)").brings(1, 0).due("show(0, 0, 6)", 1);
        run(book, JUDGES, "REVOKED and NO RIGHT fit, REVOKED and ENDED fit")
                .make("issue(0, 5)", "issue(-1, 5)", "revoke(0)", "revoke(1)").cards(1).brings(2, 0)
                .due("show(0, 0, 5)", 1).due("show(1, 0, 6)", 1);
        run(book, JUDGES, "ENDED and NO RIGHT fit").make("issue(0, 5)").due("show(0, 0, 6)", 2).due("show(0, 0, 5)", 3);
    }

    private static void writes(Book book) {
        run(book, WRITES, "no entries: nothing").cards(1).make("revoke(0)", "show(0, 0, 0)").due("written(0)", 0)
                .due("carries(0, 0)", 0);
        run(book, WRITES, "one entry").cards(3).make("revoke(2)").brings(0, 0).make("show(1, 0, 0)")
                .answers("carries(1, #)", 1, 1, 1, 0).due("memory(1, 0)", 2).due("written(1)", 5);
        run(book, WRITES, "whatever the answer was").make("issue(-1, 9)", "issue(-1, 9)", "issue(0, 9)", "issue(-1, 1)")
                .make("revoke(1)").brings(0, 0).due("show(1, 0, 2)", 1).due("show(2, 0, 2)", 3).due("show(3, 0, 2)", 2)
                .due("carries(1, 1)", 1).due("carries(2, 1)", 1).due("carries(3, 1)", 1);
        run(book, WRITES, "the card's own SEEN, lower than HEARD").cards(6).make("revoke(0)", "gate(4)")
                .make("revoke(1)", "revoke(2)").brings(5, 0).make("show(4, 0, 0)")
                .answers("carries(4, #)", 0, 3, 1, 1);
        run(book, WRITES, "the card's own SEEN, as high as HEARD").cards(6).make("revoke(0)", "gate(4)")
                .make("revoke(1)", "show(4, 0, 0)", "gate(5)", "show(5, 0, 0)").answers("carries(5, #)", 1, 2, 1, 2)
                .make("loseBattery(0)", "show(4, 0, 0)").answers("carries(4, #)", 0, 2, 1, 1);
    }

    private static void writesTheLast40(Book book) {
        for (int made = 39; made <= 42; made++) {
            Run run = run(book, WRITES, "a door with 1 .. " + made).cards(45);
            for (int entry = 1; entry <= made; entry++) {
                run.make("revoke(" + (entry - 1) + ")");
                if (entry >= 39) {
                    run.brings(43, 0);
                }
            }
            run.due("about(0, 3)", made).due("show(44, 0, 0)", 0).due("carries(44, 1)", Math.min(made, 40))
                    .due("carries(44, 2)", made <= 40 ? 1 : made - 39).due("carries(44, 3)", 0)
                    .due("memory(44, " + (Math.min(made, 40) - 1) + ")", made - 1);
        }
        run(book, WRITES, "not those below a gap").cards(46).make("revoke(0)").brings(45, 0).revoked(1, 42)
                .brings(44, 0).due("about(0, 4)", 2).make("show(43, 0, 0)").answers("carries(43, #)", 1, 40, 3, 0)
                .due("memory(43, 0)", 2).due("memory(43, 39)", 41);
        run(book, WRITES, "a card with lower entries gets the greatest ones").cards(46).make("revoke(0)", "gate(45)")
                .revoked(1, 42).brings(44, 0).make("show(45, 0, 0)").answers("carries(45, #)", 0, 40, 3, 1);
    }

    private static void gate(Book book) {
        run(book, GATE, "no entries").cards(1).passes("gate(0)").answers("carries(0, #)", 0, 0, 0, 0)
                .due("written(0)", 0);
        for (int made : new int[] {1, 2, 39, 40, 41, 80}) {
            int count = Math.min(made, 40);
            int first = made <= 40 ? 1 : made - 39;
            run(book, GATE, made + " entries").cards(made + 1).revoked(0, made).passes("gate(" + made + ")")
                    .answers("carries(" + made + ", #)", 1, count, first, made)
                    .due("memory(" + made + ", 0)", first - 1)
                    .due("memory(" + made + ", " + (count - 1) + ")", made - 1)
                    .noSuch("memory(" + made + ", " + count + ")").due("written(" + made + ")", count + 4);
        }
        run(book, GATE, "3000 entries").beyond512().cards(3001).revoked(0, 3000).passes("gate(3000)")
                .answers("carries(3000, #)", 1, 40, 2961, 3000).due("memory(3000, 39)", 2999);
        run(book, GATE, "a revoked card gets them too").cards(1).make("revoke(0)", "gate(0)").due("memory(0, 0)", 0);
    }
}
