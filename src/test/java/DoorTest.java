/** Promises 7, 8 and 14 to 18: zoneOf, show, about, run, refuses, reach, loseBattery. */
public final class DoorTest {
    private static final int MIN = Integer.MIN_VALUE;
    private static final int MAX = Integer.MAX_VALUE;
    private static final Checks CHECKS = new Checks();

    private DoorTest() {
    }

    public static void main(String[] args) {
        zones();
        zoneOfWithWrongInputs();
        orderOfJudging();
        doorTakesBeforeItJudges();
        doorWritesOnEveryCard();
        doorWithoutEntriesWritesNothing();
        cardKeepsItsOwnSeen();
        olderCardLearnsFromTheDoor();
        showWithWrongInputs();
        gaps();
        gapsAreFilled();
        lastFortyOfALongRun();
        heardAboveComplete();
        aboutAndRunWithWrongInputs();
        refuses();
        reach();
        loseBattery();
        CHECKS.end();
    }

    private static void about(String when, LockHouse x, int door, int... want) {
        for (int what = 0; what < want.length; what++) {
            int w = what;
            CHECKS.due(when + ": about(" + door + ", " + w + ")", want[w], () -> x.about(door, w));
        }
    }

    private static void carries(String when, LockHouse x, int card, int count, int first, int seen) {
        CHECKS.due(when + ": carries(" + card + ", 1)", count, () -> x.carries(card, 1));
        CHECKS.due(when + ": carries(" + card + ", 2)", first, () -> x.carries(card, 2));
        CHECKS.due(when + ": carries(" + card + ", 3)", seen, () -> x.carries(card, 3));
    }

    private static void runs(String when, LockHouse x, int door, int... ends) {
        CHECKS.due(when + ": about(" + door + ", 4)", ends.length / 2, () -> x.about(door, 4));
        for (int i = 0; i < ends.length / 2; i++) {
            int at = i;
            CHECKS.due(when + ": run(" + door + ", " + at + ", true)", ends[2 * at], () -> x.run(door, at, true));
            CHECKS.due(when + ": run(" + door + ", " + at + ", false)", ends[2 * at + 1],
                    () -> x.run(door, at, false));
        }
        CHECKS.noSuch(when + ": run(" + door + ", " + ends.length / 2 + ", true)",
                () -> x.run(door, ends.length / 2, true));
        CHECKS.noSuch(when + ": run(" + door + ", " + ends.length / 2 + ", false)",
                () -> x.run(door, ends.length / 2, false));
        CHECKS.noSuch(when + ": run(" + door + ", -1, true)", () -> x.run(door, -1, true));
    }

    private static void zones() {
        for (int zone = 0; zone < 32; zone++) {
            LockHouse x = new LockHouse();
            x.issue(1 << zone, 5);
            x.issue(~(1 << zone), 5);
            x.zoneOf(199, zone);
            CHECKS.due("zone " + zone + ": show(0, 199, 5)", LockHouse.ADMITTED, () -> x.show(0, 199, 5));
            CHECKS.due("zone " + zone + ": show(1, 199, 5)", LockHouse.NO_RIGHT, () -> x.show(1, 199, 5));
            CHECKS.due("zone 0: show(0, 198, 5)", zone == 0 ? LockHouse.ADMITTED : LockHouse.NO_RIGHT,
                    () -> x.show(0, 198, 5));
        }
        LockHouse x = new LockHouse();
        x.issue(4, 5);
        x.zoneOf(0, 1);
        x.zoneOf(0, 2);
        CHECKS.due("the later zone: show(0, 0, 5)", LockHouse.ADMITTED, () -> x.show(0, 0, 5));
    }

    private static void zoneOfWithWrongInputs() {
        LockHouse x = new LockHouse();
        x.issue(2, 5);
        x.zoneOf(0, 1);
        CHECKS.noSuch("zoneOf(200, 0)", () -> x.zoneOf(200, 0));
        CHECKS.noSuch("zoneOf(-1, 0)", () -> x.zoneOf(-1, 0));
        CHECKS.noSuch("zoneOf(200, 32)", () -> x.zoneOf(200, 32));
        CHECKS.noSuch("zoneOf(MIN, MIN)", () -> x.zoneOf(MIN, MIN));
        CHECKS.noSuch("zoneOf(MAX, MAX)", () -> x.zoneOf(MAX, MAX));
        CHECKS.badArgument("zoneOf(0, 32)", () -> x.zoneOf(0, 32));
        CHECKS.badArgument("zoneOf(0, -1)", () -> x.zoneOf(0, -1));
        CHECKS.badArgument("zoneOf(0, MIN)", () -> x.zoneOf(0, MIN));
        CHECKS.badArgument("zoneOf(0, MAX)", () -> x.zoneOf(0, MAX));
        CHECKS.due("after throws: show(0, 0, 5)", LockHouse.ADMITTED, () -> x.show(0, 0, 5));
        CHECKS.badState("zoneOf(0, 0) after a card", () -> x.zoneOf(0, 0));
        CHECKS.badState("zoneOf(0, 1) after a card", () -> x.zoneOf(0, 1));
        CHECKS.badArgument("zoneOf(0, 32) after a card", () -> x.zoneOf(0, 32));
        CHECKS.due("after a throw: show(0, 0, 5)", LockHouse.ADMITTED, () -> x.show(0, 0, 5));
        CHECKS.passes("zoneOf(1, 31)", () -> x.zoneOf(1, 31));
        x.show(0, 1, 9);
        CHECKS.badState("zoneOf(1, 1) after a card that was not admitted", () -> x.zoneOf(1, 1));
    }

    private static void orderOfJudging() {
        LockHouse x = new LockHouse();
        x.issue(0, 10);
        x.issue(1, 10);
        x.issue(-1, 99);
        CHECKS.due("end day itself: show(1, 0, 10)", LockHouse.ADMITTED, () -> x.show(1, 0, 10));
        CHECKS.due("a day later: show(1, 0, 11)", LockHouse.ENDED, () -> x.show(1, 0, 11));
        CHECKS.due("no right: show(0, 0, 10)", LockHouse.NO_RIGHT, () -> x.show(0, 0, 10));
        CHECKS.due("ended before no right: show(0, 0, 11)", LockHouse.ENDED, () -> x.show(0, 0, 11));
        x.revoke(0);
        CHECKS.due("the door does not know: show(0, 0, 11)", LockHouse.ENDED, () -> x.show(0, 0, 11));
        Houses.bring(x, 2, 0);
        CHECKS.due("revoked before all: show(0, 0, 11)", LockHouse.REVOKED, () -> x.show(0, 0, 11));
        CHECKS.due("revoked before no right: show(0, 0, 1)", LockHouse.REVOKED, () -> x.show(0, 0, 1));
        CHECKS.due("another card: show(1, 0, MIN)", LockHouse.ADMITTED, () -> x.show(1, 0, MIN));
        CHECKS.due("another card: show(1, 0, MAX)", LockHouse.ENDED, () -> x.show(1, 0, MAX));
    }

    private static void doorTakesBeforeItJudges() {
        LockHouse x = Houses.withCards(2);
        x.revoke(1);
        x.gate(1);
        CHECKS.due("a card brings its own entry: show(1, 8, 0)", LockHouse.REVOKED, () -> x.show(1, 8, 0));
        CHECKS.due("a card brings its own entry: reach(1)", 1, () -> x.reach(1));
        about("a card brings its own entry", x, 8, 1, 1, 0, 1, 1);
    }

    private static void doorWritesOnEveryCard() {
        LockHouse x = new LockHouse();
        x.issue(-1, 100);
        x.issue(-1, 100);
        x.issue(-1, 0);
        x.issue(0, 100);
        x.issue(-1, 100);
        x.revoke(1);
        Houses.bring(x, 0, 4);
        int[] answers = {LockHouse.REVOKED, LockHouse.ENDED, LockHouse.NO_RIGHT, LockHouse.ADMITTED};
        for (int card = 1; card <= 4; card++) {
            int c = card;
            CHECKS.due("written in any case: show(" + c + ", 4, 1)", answers[c - 1], () -> x.show(c, 4, 1));
            carries("written in any case", x, c, 1, 1, 0);
            CHECKS.due("written in any case: memory(" + c + ", 0)", 1, () -> x.memory(c, 0));
            CHECKS.due("written in any case: written(" + c + ")", 5, () -> x.written(c));
            x.show(c, 4, 1);
            CHECKS.due("the same is not written: written(" + c + ")", 5, () -> x.written(c));
        }
        CHECKS.due("nothing new for the bringer: written(0)", 5, () -> x.written(0));
    }

    private static void doorWithoutEntriesWritesNothing() {
        LockHouse x = Houses.withCards(2);
        x.revoke(0);
        CHECKS.due("no entries there: show(1, 0, 0)", LockHouse.ADMITTED, () -> x.show(1, 0, 0));
        CHECKS.due("no entries there: written(1)", 0, () -> x.written(1));
        about("no entries there", x, 0, 0, 0, 0, 0, 0);
    }

    private static void cardKeepsItsOwnSeen() {
        LockHouse x = Houses.withCards(10);
        x.revoke(0);
        x.gate(8);
        x.revoke(1);
        x.revoke(2);
        Houses.bring(x, 9, 0);
        x.show(8, 0, 0);
        carries("own SEEN", x, 8, 3, 1, 1);
        carries("own SEEN", x, 9, 3, 1, 3);
        x.show(8, 1, 0);
        about("SEEN of the card, not of its run", x, 1, 3, 3, 0, 3, 1);
        x.gate(8);
        carries("gate sets SEEN alone", x, 8, 3, 1, 3);
        CHECKS.due("gate sets SEEN alone: written(8)", 5 + 7 + 7, () -> x.written(8));
        CHECKS.due("gate sets SEEN alone: carries(8, 0)", 1, () -> x.carries(8, 0));
    }

    private static void olderCardLearnsFromTheDoor() {
        LockHouse x = Houses.withCards(60);
        x.revoke(0);
        x.gate(55);
        Houses.revoke(x, 1, 45);
        Houses.bring(x, 56, 2);
        x.show(55, 2, 0);
        carries("older card", x, 55, 40, 6, 1);
        about("older card's entry is taken", x, 2, 1, 45, 44, 41, 2);
        runs("older card's entry is taken", x, 2, 1, 1, 6, 45);
        CHECKS.due("older card: written(55)", 5 + 44, () -> x.written(55));
    }

    private static void showWithWrongInputs() {
        LockHouse x = Houses.withCards(3);
        x.revoke(0);
        x.gate(1);
        CHECKS.noSuch("show(3, 0, 0)", () -> x.show(3, 0, 0));
        CHECKS.noSuch("show(-1, 0, 0)", () -> x.show(-1, 0, 0));
        CHECKS.noSuch("show(1, 200, 0)", () -> x.show(1, 200, 0));
        CHECKS.noSuch("show(1, -1, 0)", () -> x.show(1, -1, 0));
        CHECKS.noSuch("show(MAX, MIN, 0)", () -> x.show(MAX, MIN, 0));
        CHECKS.noSuch("show(1, MAX, 0)", () -> x.show(1, MAX, 0));
        CHECKS.due("after throws: reach(1)", 0, () -> x.reach(1));
        CHECKS.passes("after throws: zoneOf(0, 2)", () -> x.zoneOf(0, 2));
    }

    private static void gaps() {
        LockHouse x = Houses.withGapsAtDoor5();
        about("gaps", x, 5, 3, 110, 107, 83, 3);
        runs("gaps", x, 5, 1, 3, 11, 50, 71, 110);
        x.show(116, 5, 0);
        carries("gaps", x, 116, 40, 71, 0);
        CHECKS.due("gaps: memory(116, 0)", 70, () -> x.memory(116, 0));
        CHECKS.due("gaps: memory(116, 39)", 109, () -> x.memory(116, 39));
        int[] cards = {0, 2, 3, 9, 10, 49, 50, 69, 70, 109, 110};
        boolean[] refused = {true, true, false, false, true, true, false, false, true, true, false};
        for (int i = 0; i < cards.length; i++) {
            int card = cards[i];
            CHECKS.holds("gaps: refuses(5, " + card + ")", refused[i], () -> x.refuses(5, card));
        }
        for (int i = 0; i < 11; i++) {
            int card = cards[i];
            CHECKS.due("gaps: show(" + card + ", 5, 0)", refused[i] ? LockHouse.REVOKED : LockHouse.ADMITTED,
                    () -> x.show(card, 5, 0));
        }
        runs("another door", x, 6);
        runs("gaps stay", x, 5, 1, 3, 11, 50, 71, 110);
    }

    private static void gapsAreFilled() {
        LockHouse x = Houses.withCards(100);
        Houses.revoke(x, 0, 10);
        x.gate(90);
        Houses.revoke(x, 10, 45);
        x.gate(91);
        Houses.revoke(x, 45, 85);
        x.gate(92);
        x.show(92, 7, 0);
        runs("46 to 85", x, 7, 46, 85);
        about("46 to 85", x, 7, 0, 85, 85, 40, 1);
        x.show(90, 7, 0);
        runs("and 1 to 10", x, 7, 1, 10, 46, 85);
        about("and 1 to 10", x, 7, 10, 85, 75, 50, 2);
        carries("an older run gives way to the last", x, 90, 40, 46, 10);
        x.show(91, 7, 0);
        runs("and 6 to 45", x, 7, 1, 85);
        about("and 6 to 45", x, 7, 85, 85, 0, 85, 1);
        carries("the last 40 of 85", x, 91, 40, 46, 45);
        for (int entry : new int[] {1, 10, 11, 46, 85}) {
            CHECKS.due("filled: reach(" + entry + ")", 1, () -> x.reach(entry));
        }
    }

    private static void lastFortyOfALongRun() {
        LockHouse x = Houses.withCards(60);
        for (int made = 38; made <= 42; made++) {
            Houses.revoke(x, 0, made);
            Houses.bring(x, 59, 3);
            int reader = made + 10;
            x.show(reader, 3, 0);
            carries("a run of " + made, x, reader, Math.min(made, 40), Math.max(1, made - 39), 0);
            about("a run of " + made, x, 3, made, made, 0, made, 1);
        }
    }

    private static void heardAboveComplete() {
        LockHouse x = Houses.withCards(60);
        Houses.revoke(x, 0, 41);
        x.gate(50);
        x.show(50, 0, 0);
        about("2 to 41", x, 0, 0, 41, 41, 40, 1);
        x.show(51, 0, 0);
        x.show(51, 1, 0);
        about("a card that was not at the gate", x, 1, 0, 41, 0, 40, 1);
        Houses.revoke(x, 41, 44);
        Houses.bring(x, 52, 9);
        x.show(50, 9, 0);
        carries("newer entries, older SEEN", x, 50, 40, 5, 41);
        x.show(50, 8, 0);
        about("HEARD below the greatest entry", x, 8, 0, 44, 41, 40, 1);
        x.show(52, 8, 0);
        about("a greater SEEN", x, 8, 0, 44, 44, 40, 1);
        x.show(50, 8, 0);
        about("a lower SEEN later", x, 8, 0, 44, 44, 40, 1);
    }

    private static void aboutAndRunWithWrongInputs() {
        LockHouse x = Houses.withCards(2);
        x.revoke(0);
        Houses.bring(x, 1, 0);
        runs("a single entry", x, 0, 1, 1);
        CHECKS.noSuch("about(200, 0)", () -> x.about(200, 0));
        CHECKS.noSuch("about(-1, 0)", () -> x.about(-1, 0));
        CHECKS.noSuch("about(200, 5)", () -> x.about(200, 5));
        CHECKS.noSuch("about(MIN, -1)", () -> x.about(MIN, -1));
        CHECKS.noSuch("about(MAX, MAX)", () -> x.about(MAX, MAX));
        CHECKS.badArgument("about(0, 5)", () -> x.about(0, 5));
        CHECKS.badArgument("about(0, -1)", () -> x.about(0, -1));
        CHECKS.badArgument("about(0, MIN)", () -> x.about(0, MIN));
        CHECKS.badArgument("about(0, MAX)", () -> x.about(0, MAX));
        CHECKS.noSuch("run(200, 0, true)", () -> x.run(200, 0, true));
        CHECKS.noSuch("run(-1, 0, true)", () -> x.run(-1, 0, true));
        CHECKS.noSuch("run(0, 1, false)", () -> x.run(0, 1, false));
        CHECKS.noSuch("run(0, MAX, false)", () -> x.run(0, MAX, false));
        CHECKS.noSuch("run(0, MIN, true)", () -> x.run(0, MIN, true));
        CHECKS.noSuch("run(MAX, 0, true)", () -> x.run(MAX, 0, true));
    }

    private static void refuses() {
        LockHouse x = Houses.withCards(4);
        x.revoke(2);
        CHECKS.holds("before a card comes: refuses(0, 2)", false, () -> x.refuses(0, 2));
        Houses.bring(x, 0, 0);
        CHECKS.holds("refuses(0, 2)", true, () -> x.refuses(0, 2));
        CHECKS.holds("refuses(0, 0)", false, () -> x.refuses(0, 0));
        CHECKS.holds("refuses(1, 2)", false, () -> x.refuses(1, 2));
        x.revoke(0);
        CHECKS.holds("revoked later: refuses(0, 0)", false, () -> x.refuses(0, 0));
        CHECKS.noSuch("refuses(0, 4)", () -> x.refuses(0, 4));
        CHECKS.noSuch("refuses(0, -1)", () -> x.refuses(0, -1));
        CHECKS.noSuch("refuses(200, 2)", () -> x.refuses(200, 2));
        CHECKS.noSuch("refuses(-1, 2)", () -> x.refuses(-1, 2));
        CHECKS.noSuch("refuses(MAX, MIN)", () -> x.refuses(MAX, MIN));
        CHECKS.noSuch("refuses(0, MAX)", () -> x.refuses(0, MAX));
    }

    private static void reach() {
        LockHouse x = Houses.withCards(4);
        x.revoke(3);
        x.gate(0);
        for (int door = 0; door < 200; door++) {
            x.show(0, door, 0);
            if (door == 0 || door == 63 || door == 64 || door == 199) {
                CHECKS.due("reach(1) after " + (door + 1), door + 1, () -> x.reach(1));
            }
        }
        x.show(0, 10, 0);
        CHECKS.due("a door again: reach(1)", 200, () -> x.reach(1));
        x.revoke(2);
        CHECKS.due("a new entry: reach(2)", 0, () -> x.reach(2));
        Houses.bring(x, 1, 20);
        CHECKS.due("reach(2)", 1, () -> x.reach(2));
        CHECKS.noSuch("reach(3)", () -> x.reach(3));
        CHECKS.noSuch("reach(0)", () -> x.reach(0));
        CHECKS.noSuch("reach(-1)", () -> x.reach(-1));
        CHECKS.noSuch("reach(MIN)", () -> x.reach(MIN));
        CHECKS.noSuch("reach(MAX)", () -> x.reach(MAX));
    }

    private static void loseBattery() {
        LockHouse x = Houses.withCards(60);
        Houses.revoke(x, 0, 41);
        x.gate(50);
        x.zoneOf(3, 7);
        x.zoneOf(4, 9);
        x.issue(1 << 7, 5);
        x.show(50, 3, 0);
        x.show(50, 4, 0);
        x.loseBattery(3);
        about("without battery", x, 3, 0, 41, 0, 40, 1);
        about("another door", x, 4, 0, 41, 41, 40, 1);
        runs("without battery", x, 3, 2, 41);
        CHECKS.holds("entries are kept: refuses(3, 1)", true, () -> x.refuses(3, 1));
        CHECKS.due("entries are kept: reach(41)", 2, () -> x.reach(41));
        CHECKS.due("the zone is kept: show(60, 3, 5)", LockHouse.ADMITTED, () -> x.show(60, 3, 5));
        about("a card without SEEN", x, 3, 0, 41, 0, 40, 1);
        CHECKS.badState("a card was shown already: zoneOf(3, 1)", () -> x.zoneOf(3, 1));
        x.show(50, 3, 0);
        about("HEARD comes anew", x, 3, 0, 41, 41, 40, 1);
        CHECKS.passes("a door that saw no card: loseBattery(199)", () -> x.loseBattery(199));
        CHECKS.passes("a door that saw no card: zoneOf(199, 3)", () -> x.zoneOf(199, 3));
        CHECKS.noSuch("loseBattery(200)", () -> x.loseBattery(200));
        CHECKS.noSuch("loseBattery(-1)", () -> x.loseBattery(-1));
        CHECKS.noSuch("loseBattery(MIN)", () -> x.loseBattery(MIN));
        CHECKS.noSuch("loseBattery(MAX)", () -> x.loseBattery(MAX));
        about("after throws", x, 3, 0, 41, 41, 40, 1);
    }
}
