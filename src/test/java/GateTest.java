/** Promises 1 to 6: a new object, issue, cards, revoke, entries, gate. */
public final class GateTest {
    private static final int MIN = Integer.MIN_VALUE;
    private static final int MAX = Integer.MAX_VALUE;
    private static final Checks CHECKS = new Checks();

    private GateTest() {
    }

    public static void main(String[] args) {
        newObject();
        issue();
        issueTakesAnyMaskAndDay();
        revoke();
        revokeOfNoCard();
        gateWithoutEntries();
        gateWithFewEntries();
        gateWithFortyEntriesAndMore();
        gateOfNoCard();
        gateBringsNothingToDoors();
        CHECKS.end();
    }

    private static void newObject() {
        LockHouse x = new LockHouse();
        CHECKS.due("new: cards()", 0, x::cards);
        CHECKS.due("new: entries()", 0, x::entries);
        CHECKS.noSuch("new: written(0)", () -> x.written(0));
        CHECKS.noSuch("new: reach(1)", () -> x.reach(1));
        for (int door = 0; door < 200; door += 199) {
            int d = door;
            for (int what = 0; what < 5; what++) {
                int w = what;
                CHECKS.due("new: about(" + d + ", " + w + ")", 0, () -> x.about(d, w));
            }
            CHECKS.noSuch("new: run(" + d + ", 0, true)", () -> x.run(d, 0, true));
        }
        CHECKS.noSuch("new: about(200, 0)", () -> x.about(200, 0));
        CHECKS.noSuch("new: about(-1, 0)", () -> x.about(-1, 0));
        x.issue(1, 5);
        CHECKS.due("new: spread(200)", 0, () -> x.spread(200));
        CHECKS.passes("new: zoneOf(0, 1), as no card was shown", () -> x.zoneOf(0, 1));
        CHECKS.due("new: a second object has cards of its own", 0, () -> new LockHouse().cards());
    }

    private static void issue() {
        LockHouse x = new LockHouse();
        for (int i = 0; i < 20; i++) {
            CHECKS.due("issue(1, 5)", i, () -> x.issue(1, 5));
            CHECKS.due("cards()", i + 1, x::cards);
        }
        CHECKS.due("issue: entries()", 0, x::entries);
        for (int what = 0; what < 4; what++) {
            int w = what;
            CHECKS.due("issue: carries(19, " + w + ")", 0, () -> x.carries(19, w));
        }
        for (int i = 0; i < 44; i++) {
            int w = i;
            CHECKS.due("issue: word(19, 0, " + w + ")", 0, () -> x.word(19, 0, w));
            CHECKS.due("issue: word(19, 1, " + w + ")", 0, () -> x.word(19, 1, w));
        }
        CHECKS.due("issue: written(19)", 0, () -> x.written(19));
        CHECKS.noSuch("issue: written(20)", () -> x.written(20));
    }

    private static void issueTakesAnyMaskAndDay() {
        LockHouse x = new LockHouse();
        CHECKS.due("issue(0, MAX)", 0, () -> x.issue(0, MAX));
        CHECKS.due("issue(MIN, MIN)", 1, () -> x.issue(MIN, MIN));
        CHECKS.due("issue(MAX, -1)", 2, () -> x.issue(MAX, -1));
        x.zoneOf(1, 31);
        x.zoneOf(2, 30);
        CHECKS.due("no zones: show(0, 0, MAX)", LockHouse.NO_RIGHT, () -> x.show(0, 0, MAX));
        CHECKS.due("zone 31: show(1, 1, MIN)", LockHouse.ADMITTED, () -> x.show(1, 1, MIN));
        CHECKS.due("zone 31: show(1, 1, MIN + 1)", LockHouse.ENDED, () -> x.show(1, 1, MIN + 1));
        CHECKS.due("zone 31: show(1, 2, MIN)", LockHouse.NO_RIGHT, () -> x.show(1, 2, MIN));
        CHECKS.due("zones 0 to 30: show(2, 1, -1)", LockHouse.NO_RIGHT, () -> x.show(2, 1, -1));
        CHECKS.due("zones 0 to 30: show(2, 2, -1)", LockHouse.ADMITTED, () -> x.show(2, 2, -1));
        CHECKS.due("zones 0 to 30: show(2, 2, 0)", LockHouse.ENDED, () -> x.show(2, 2, 0));
    }

    private static void revoke() {
        LockHouse x = Houses.withCards(5);
        CHECKS.due("revoke(3)", 1, () -> x.revoke(3));
        CHECKS.due("revoke(3) again", LockHouse.NONE, () -> x.revoke(3));
        CHECKS.due("entries()", 1, x::entries);
        CHECKS.due("revoke(0)", 2, () -> x.revoke(0));
        CHECKS.due("revoke(4)", 3, () -> x.revoke(4));
        CHECKS.due("revoke(3) a third time", LockHouse.NONE, () -> x.revoke(3));
        CHECKS.due("revoke(0) again", LockHouse.NONE, () -> x.revoke(0));
        CHECKS.due("entries()", 3, x::entries);
        CHECKS.due("revoke: cards()", 5, x::cards);
        CHECKS.due("revoke: show(3, 0, 0), as no door knows", LockHouse.ADMITTED, () -> x.show(3, 0, 0));
        CHECKS.due("revoke: written(3)", 0, () -> x.written(3));
        for (int entry = 1; entry <= 3; entry++) {
            int e = entry;
            CHECKS.due("revoke: reach(" + e + ")", 0, () -> x.reach(e));
        }
    }

    private static void revokeOfNoCard() {
        LockHouse x = Houses.withCards(2);
        CHECKS.noSuch("revoke(2)", () -> x.revoke(2));
        CHECKS.noSuch("revoke(-1)", () -> x.revoke(-1));
        CHECKS.noSuch("revoke(MIN)", () -> x.revoke(MIN));
        CHECKS.noSuch("revoke(MAX)", () -> x.revoke(MAX));
        CHECKS.due("after throws: entries()", 0, x::entries);
        CHECKS.due("after throws: revoke(1)", 1, () -> x.revoke(1));
    }

    private static void gateWithoutEntries() {
        LockHouse x = Houses.withCards(1);
        x.gate(0);
        CHECKS.due("no entries: written(0)", 0, () -> x.written(0));
        CHECKS.due("no entries: carries(0, 0)", 0, () -> x.carries(0, 0));
        CHECKS.due("no entries: carries(0, 2)", 0, () -> x.carries(0, 2));
        CHECKS.due("no entries: word(0, 1, 0)", 0, () -> x.word(0, 1, 0));
    }

    private static void gateWithFewEntries() {
        LockHouse x = Houses.withCards(6);
        x.revoke(4);
        x.revoke(1);
        x.gate(1);
        carried("2 entries", x, 1, new int[] {1, 2, 1, 2}, 6);
        CHECKS.due("2 entries: memory(1, 0)", 4, () -> x.memory(1, 0));
        CHECKS.due("2 entries: memory(1, 1)", 1, () -> x.memory(1, 1));
        x.gate(1);
        carried("2 entries, again", x, 1, new int[] {1, 2, 1, 2}, 6);
        x.revoke(0);
        x.gate(1);
        carried("3 entries", x, 1, new int[] {0, 3, 1, 3}, 13);
        CHECKS.due("3 entries: memory(1, 2)", 0, () -> x.memory(1, 2));
        CHECKS.due("other card: written(0)", 0, () -> x.written(0));
    }

    private static void gateWithFortyEntriesAndMore() {
        LockHouse x = Houses.withCards(60);
        Houses.revoke(x, 0, 39);
        x.gate(50);
        carried("39 entries", x, 50, new int[] {1, 39, 1, 39}, 43);
        Houses.revoke(x, 39, 40);
        x.gate(50);
        carried("40 entries", x, 50, new int[] {0, 40, 1, 40}, 87);
        Houses.revoke(x, 40, 41);
        x.gate(50);
        carried("41 entries", x, 50, new int[] {1, 40, 2, 41}, 131);
        CHECKS.due("41 entries: memory(50, 0)", 1, () -> x.memory(50, 0));
        CHECKS.due("41 entries: memory(50, 39)", 40, () -> x.memory(50, 39));
        Houses.revoke(x, 41, 55);
        x.gate(50);
        carried("55 entries", x, 50, new int[] {0, 40, 16, 55}, 175);
    }

    private static void carried(String when, LockHouse x, int card, int[] want, int written) {
        for (int what = 0; what < want.length; what++) {
            int w = what;
            CHECKS.due(when + ": carries(" + card + ", " + w + ")", want[w], () -> x.carries(card, w));
        }
        CHECKS.due(when + ": written(" + card + ")", written, () -> x.written(card));
    }

    private static void gateOfNoCard() {
        LockHouse x = Houses.withCards(3);
        x.revoke(0);
        CHECKS.noSuch("gate(3)", () -> x.gate(3));
        CHECKS.noSuch("gate(-1)", () -> x.gate(-1));
        CHECKS.noSuch("gate(MIN)", () -> x.gate(MIN));
        CHECKS.noSuch("gate(MAX)", () -> x.gate(MAX));
        for (int card = 0; card < 3; card++) {
            int c = card;
            CHECKS.due("after throws: written(" + c + ")", 0, () -> x.written(c));
        }
    }

    private static void gateBringsNothingToDoors() {
        LockHouse x = Houses.withCards(2);
        x.revoke(0);
        x.gate(0);
        x.gate(1);
        CHECKS.due("at the gate alone: reach(1)", 0, () -> x.reach(1));
        CHECKS.holds("at the gate alone: refuses(0, 0)", false, () -> x.refuses(0, 0));
    }
}
