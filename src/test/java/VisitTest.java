/** Promises 19 and 20: visit, spread. */
public final class VisitTest {
    private static final int MIN = Integer.MIN_VALUE;
    private static final int MAX = Integer.MAX_VALUE;
    private static final Checks CHECKS = new Checks();

    private VisitTest() {
    }

    public static void main(String[] args) {
        visitAloneShowsNothing();
        spreadMakesTheFirstOnes();
        spreadCountsTheAdmitted();
        spreadGoesInOrder();
        visitsStayAndCanBeChanged();
        spreadMakesAllVisits();
        wrongInputs();
        CHECKS.end();
    }

    private static void visitAloneShowsNothing() {
        LockHouse x = Houses.withCards(2);
        x.revoke(0);
        x.gate(1);
        x.visit(0, 1, 0, 0);
        CHECKS.due("visit alone: reach(1)", 0, () -> x.reach(1));
        CHECKS.due("spread(0)", 0, () -> x.spread(0));
        CHECKS.due("spread(0) makes none: reach(1)", 0, () -> x.reach(1));
        CHECKS.passes("no card was shown: zoneOf(0, 1)", () -> x.zoneOf(0, 1));
        CHECKS.due("spread(1)", 1, () -> x.spread(1));
        CHECKS.due("spread(1) makes it: reach(1)", 1, () -> x.reach(1));
        CHECKS.badState("a card was shown: zoneOf(0, 1)", () -> x.zoneOf(0, 1));
    }

    private static void spreadMakesTheFirstOnes() {
        LockHouse x = Houses.withCards(3);
        x.revoke(0);
        x.gate(1);
        x.visit(3, 1, 30, 0);
        x.visit(5, 1, 50, 0);
        x.visit(199, 1, 199, 0);
        int[][] due = {{3, 0, 0}, {4, 1, 1}, {5, 1, 1}, {6, 2, 2}, {199, 2, 2}, {200, 3, 3}};
        for (int[] d : due) {
            CHECKS.due("spread(" + d[0] + ")", d[1], () -> x.spread(d[0]));
            CHECKS.due("reach(1) after spread(" + d[0] + ")", d[2], () -> x.reach(1));
        }
    }

    private static void spreadCountsTheAdmitted() {
        LockHouse x = new LockHouse();
        x.issue(-1, 10);
        x.issue(0, 10);
        x.issue(-1, 10);
        x.revoke(2);
        x.gate(0);
        x.visit(0, 0, 0, 10);
        x.visit(1, 0, 0, 11);
        x.visit(2, 1, 0, 10);
        x.visit(3, 2, 0, 10);
        x.visit(4, 0, 1, MIN);
        x.visit(5, 0, 2, MAX);
        int[] due = {0, 1, 1, 1, 1, 2, 2};
        for (int n = 0; n < due.length; n++) {
            int m = n;
            CHECKS.due("the admitted of spread(" + m + ")", due[m], () -> x.spread(m));
        }
        CHECKS.due("one that is not admitted brings entries too: reach(1)", 3, () -> x.reach(1));
    }

    private static void spreadGoesInOrder() {
        LockHouse x = Houses.withCards(4);
        x.revoke(3);
        x.gate(0);
        x.visit(0, 3, 1, 0);
        x.visit(1, 0, 1, 0);
        x.visit(2, 1, 1, 0);
        x.visit(3, 1, 2, 0);
        x.visit(4, 3, 2, 0);
        CHECKS.due("in order: spread(5)", 4, () -> x.spread(5));
        CHECKS.due("from door to door: reach(1)", 2, () -> x.reach(1));
        CHECKS.due("from door to door: carries(1, 1)", 1, () -> x.carries(1, 1));
        CHECKS.due("the doors know now: spread(5)", 3, () -> x.spread(5));
    }

    private static void visitsStayAndCanBeChanged() {
        LockHouse x = Houses.withCards(2);
        x.visit(0, 0, 0, 0);
        CHECKS.due("spread(200)", 1, () -> x.spread(200));
        CHECKS.due("spread(200) again", 1, () -> x.spread(200));
        x.issue(0, 0);
        x.visit(0, 2, 9, 0);
        CHECKS.due("changed: spread(200)", 0, () -> x.spread(200));
        CHECKS.passes("made at door 0, and at door 9 now: zoneOf(8, 1)", () -> x.zoneOf(8, 1));
        CHECKS.badState("made at door 9: zoneOf(9, 1)", () -> x.zoneOf(9, 1));
        x.visit(0, 0, 9, 5);
        CHECKS.due("changed back: spread(1)", 1, () -> x.spread(1));
    }

    private static void spreadMakesAllVisits() {
        LockHouse x = Houses.withCards(2);
        x.revoke(0);
        x.gate(1);
        for (int i = 0; i < 200; i++) {
            x.visit(i, 1, i, i);
        }
        CHECKS.due("all: spread(199)", 199, () -> x.spread(199));
        CHECKS.due("all: reach(1)", 199, () -> x.reach(1));
        CHECKS.due("all: spread(200)", 200, () -> x.spread(200));
        CHECKS.due("all: reach(1)", 200, () -> x.reach(1));
    }

    private static void wrongInputs() {
        LockHouse x = Houses.withCards(2);
        x.visit(0, 1, 3, 0);
        int[][] wrong = {{200, 0, 0}, {-1, 0, 0}, {0, 2, 0}, {0, -1, 0}, {0, 0, 200}, {0, 0, -1}, {MIN, 0, 0},
            {MAX, 0, 0}, {0, MAX, 0}, {0, MIN, 0}, {0, 0, MAX}, {0, 0, MIN}, {1, 2, 0}, {1, 0, 200}};
        for (int[] w : wrong) {
            CHECKS.noSuch("visit(" + w[0] + ", " + w[1] + ", " + w[2] + ", 0)",
                    () -> x.visit(w[0], w[1], w[2], 0));
        }
        for (int n : new int[] {-1, 201, MIN, MAX}) {
            CHECKS.badArgument("spread(" + n + ")", () -> x.spread(n));
        }
        CHECKS.passes("after throws no card was shown: zoneOf(3, 0)", () -> x.zoneOf(3, 0));
        CHECKS.due("after throws: spread(200)", 1, () -> x.spread(200));
        CHECKS.passes("after throws: zoneOf(0, 1)", () -> x.zoneOf(0, 1));
        CHECKS.badState("the visit that stayed: zoneOf(3, 1)", () -> x.zoneOf(3, 1));
    }
}
