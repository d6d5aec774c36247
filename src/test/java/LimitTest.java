/**
 * The limits of 4000 cards and 3000 entries, and the sequence number behind 255. The document frees
 * what an object answers after 512 calls; these can't be reached before, but the program keeps them.
 */
public final class LimitTest {
    private static final Checks CHECKS = new Checks();

    private LimitTest() {
    }

    public static void main(String[] args) {
        LockHouse x = new LockHouse();
        for (int i = 0; i < 4000; i++) {
            int card = i;
            CHECKS.due("issue", card, () -> x.issue(-1, 5));
        }
        CHECKS.badState("issue of card 4000", () -> x.issue(-1, 5));
        CHECKS.due("cards()", 4000, x::cards);
        sequenceGoesRound(x);
        mostEntries(x);
        CHECKS.end();
    }

    private static void sequenceGoesRound(LockHouse x) {
        for (int n = 1; n <= 600; n++) {
            int write = n;
            x.revoke(4000 - n);
            x.gate(0);
            int count = Math.min(n, 40);
            int head = (short) (n % 256 * 256 + count);
            CHECKS.due("write " + write + ": carries(0, 0)", write % 2, () -> x.carries(0, 0));
            CHECKS.due("write " + write + ": carries(0, 3)", write, () -> x.carries(0, 3));
            CHECKS.due("write " + write + ": word(0, .., 0)", head, () -> x.word(0, write % 2, 0));
            CHECKS.due("write " + write + ": word(0, .., 43)", head, () -> x.word(0, write % 2, 43));
            CHECKS.due("write " + write + ": memory(0, ..)", 4000 - write, () -> x.memory(0, count - 1));
            if (write == 255) {
                tornAtTheTurn(x);
            }
        }
    }

    private static void tornAtTheTurn(LockHouse x) {
        x.tear(0, 43);
        x.revoke(3999 - 255);
        x.gate(0);
        CHECKS.due("torn at the turn: carries(0, 0)", 1, () -> x.carries(0, 0));
        CHECKS.due("torn at the turn: carries(0, 3)", 255, () -> x.carries(0, 3));
        CHECKS.due("torn at the turn: word(0, 0, 0)", 40, () -> x.word(0, 0, 0));
    }

    private static void mostEntries(LockHouse x) {
        for (int card = 1; card <= 2400; card++) {
            int c = card;
            CHECKS.due("revoke(" + c + ")", 600 + c, () -> x.revoke(c));
        }
        CHECKS.badState("revoke with 3000 entries", () -> x.revoke(3200));
        CHECKS.due("revoke of one that is revoked", LockHouse.NONE, () -> x.revoke(1));
        CHECKS.noSuch("revoke(4000)", () -> x.revoke(4000));
        CHECKS.noSuch("revoke(-1)", () -> x.revoke(-1));
        CHECKS.due("entries()", 3000, x::entries);
        x.gate(0);
        CHECKS.due("at the limit: carries(0, 2)", 2961, () -> x.carries(0, 2));
        CHECKS.due("at the limit: carries(0, 3)", 3000, () -> x.carries(0, 3));
        x.show(0, 199, 0);
        CHECKS.due("at the limit: about(199, 2)", 3000, () -> x.about(199, 2));
        CHECKS.due("at the limit: run(199, 0, false)", 3000, () -> x.run(199, 0, false));
        CHECKS.due("at the limit: reach(3000)", 1, () -> x.reach(3000));
        CHECKS.noSuch("at the limit: reach(3001)", () -> x.reach(3001));
    }
}
