/** Makes houses in the states that several tests begin with. */
final class Houses {
    static final int EVERYWHERE = -1;
    static final int LATE = Integer.MAX_VALUE;

    private Houses() {
    }

    /** A house with so many cards that may go everywhere and never end. */
    static LockHouse withCards(int cards) {
        LockHouse house = new LockHouse();
        for (int i = 0; i < cards; i++) {
            house.issue(EVERYWHERE, LATE);
        }
        return house;
    }

    /** Revokes the cards from .. to - 1. */
    static void revoke(LockHouse house, int from, int to) {
        for (int card = from; card < to; card++) {
            house.revoke(card);
        }
    }

    /** 120 cards, of which 0 .. 109 are revoked; door 5 has the entries 1 .. 3, 11 .. 50 and 71 .. 110. */
    static LockHouse withGapsAtDoor5() {
        LockHouse house = withCards(120);
        revoke(house, 0, 3);
        bring(house, 115, 5);
        revoke(house, 3, 50);
        bring(house, 115, 5);
        revoke(house, 50, 110);
        bring(house, 115, 5);
        return house;
    }

    static void bring(LockHouse house, int card, int door) {
        house.gate(card);
        house.show(card, door, 0);
    }
}
