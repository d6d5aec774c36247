/** Promises 9 to 13: tear, written, word, carries, memory, and how cards are written. */
public final class CardTest {
    private static final int MIN = Integer.MIN_VALUE;
    private static final int MAX = Integer.MAX_VALUE;
    private static final Checks CHECKS = new Checks();

    private CardTest() {
    }

    public static void main(String[] args) {
        wordsOfAWrite();
        wordsBehindATearStay();
        headsWithSign();
        for (int keep = 0; keep <= 50; keep++) {
            tornAfter(keep);
        }
        tornLongWrites();
        tornOverAWholeImage();
        tearWaitsForAWrite();
        tearAtADoor();
        laterTearReplacesEarlier();
        tearOfOneCardAlone();
        tearWithWrongInputs();
        wordWithWrongInputs();
        carriesWithWrongInputs();
        memoryWithWrongInputs();
        CHECKS.end();
    }

    private static void words(String when, LockHouse x, int card, int image, int from, int... want) {
        for (int i = 0; i < want.length; i++) {
            int at = from + i;
            CHECKS.due(when + ": word(" + card + ", " + image + ", " + at + ")", want[i],
                    () -> x.word(card, image, at));
        }
    }

    private static void wordsOfAWrite() {
        LockHouse x = Houses.withCards(10);
        x.revoke(7);
        x.revoke(2);
        x.revoke(9);
        x.gate(5);
        words("first write", x, 5, 0, 0, 0, 0, 0, 0, 0, 0);
        words("first write", x, 5, 1, 0, 259, 1, 3, 7, 2, 9, 0);
        words("first write", x, 5, 1, 42, 0, 259);
        words("first write", x, 5, 0, 42, 0, 0);
        CHECKS.due("first write: written(5)", 7, () -> x.written(5));
        x.revoke(0);
        x.gate(5);
        words("second write", x, 5, 0, 0, 516, 1, 4, 7, 2, 9, 0, 0);
        words("second write", x, 5, 0, 42, 0, 516);
        words("second write, first image", x, 5, 1, 0, 259, 1, 3, 7, 2, 9, 0);
        CHECKS.due("second write: written(5)", 15, () -> x.written(5));
        CHECKS.due("second write: written(4)", 0, () -> x.written(4));
    }

    /** A torn write leaves the words that it does not reach as they were. */
    private static void wordsBehindATearStay() {
        LockHouse x = Houses.withCards(90);
        Houses.revoke(x, 0, 45);
        x.gate(80);
        words("40 entries", x, 80, 1, 0, 296, 6, 45, 5);
        words("40 entries", x, 80, 1, 41, 43, 44, 296);
        Houses.revoke(x, 45, 46);
        x.gate(80);
        Houses.revoke(x, 46, 47);
        x.tear(80, 4);
        x.gate(80);
        words("torn after 4 of 44", x, 80, 1, 0, 808, 8, 47, 7, 6);
        words("torn after 4 of 44", x, 80, 1, 42, 44, 296);
        CHECKS.due("torn after 4 of 44: written(80)", 92, () -> x.written(80));
        CHECKS.due("torn after 4 of 44: carries(80, 0)", 0, () -> x.carries(80, 0));
        CHECKS.due("torn after 4 of 44: memory(80, 0)", 6, () -> x.memory(80, 0));
    }

    /** From the 128th write on the head has a sign; the newer image stays the current one. */
    private static void headsWithSign() {
        LockHouse x = new LockHouse();
        x.issue(-1, 9);
        int total = 0;
        for (int n = 1; n <= 132; n++) {
            x.issue(-1, 9);
            x.revoke(n);
            x.gate(0);
            int count = Math.min(n, 40);
            total += count + 4;
            if (n >= 126) {
                int written = total;
                int image = n & 1;
                CHECKS.due("write " + n + ": word(0, " + image + ", 0)", (short) (256 * n + count),
                        () -> x.word(0, image, 0));
                CHECKS.due("write " + n + ": word(0, " + image + ", 43)", (short) (256 * n + count),
                        () -> x.word(0, image, 43));
                CHECKS.due("write " + n + ": carries(0, 0)", image, () -> x.carries(0, 0));
                CHECKS.due("write " + n + ": carries(0, 1)", count, () -> x.carries(0, 1));
                CHECKS.due("write " + n + ": carries(0, 2)", n - 39, () -> x.carries(0, 2));
                CHECKS.due("write " + n + ": carries(0, 3)", n, () -> x.carries(0, 3));
                CHECKS.due("write " + n + ": memory(0, 39)", n, () -> x.memory(0, 39));
                CHECKS.due("write " + n + ": written(0)", written, () -> x.written(0));
            }
        }
        CHECKS.due("write 132: word(0, 0, 0)", (132 * 256 + 40) - 65536, () -> x.word(0, 0, 0));
    }

    /** A write of 5 words: HEAD, FIRST, SEEN, one number, TAIL. */
    private static void tornAfter(int keep) {
        String when = "torn after " + keep;
        LockHouse x = Houses.withCards(8);
        x.revoke(6);
        x.tear(3, keep);
        x.gate(3);
        CHECKS.due(when + ": written(3)", Math.min(keep, 5), () -> x.written(3));
        words(when, x, 3, 1, 0, keep > 0 ? 257 : 0, keep > 1 ? 1 : 0, keep > 2 ? 1 : 0, keep > 3 ? 6 : 0, 0);
        words(when, x, 3, 1, 43, keep > 4 ? 257 : 0);
        CHECKS.due(when + ": carries(3, 0)", keep > 4 ? 1 : 0, () -> x.carries(3, 0));
        for (int what = 1; what < 4; what++) {
            int w = what;
            CHECKS.due(when + ": carries(3, " + w + ")", keep > 4 ? 1 : 0, () -> x.carries(3, w));
        }
        if (keep < 5) {
            CHECKS.noSuch(when + ": memory(3, 0)", () -> x.memory(3, 0));
        }
        x.gate(3);
        CHECKS.due(when + ", written anew: written(3)", keep < 5 ? keep + 5 : 5, () -> x.written(3));
        words(when + ", written anew", x, 3, 1, 0, 257, 1, 1, 6, 0);
        words(when + ", written anew", x, 3, 1, 43, 257);
        CHECKS.due(when + ", written anew: carries(3, 0)", 1, () -> x.carries(3, 0));
        x.revoke(7);
        x.gate(3);
        CHECKS.due(when + ", tears no more: carries(3, 1)", 2, () -> x.carries(3, 1));
        CHECKS.due(when + ", tears no more: word(3, 0, 43)", 514, () -> x.word(3, 0, 43));
    }

    private static void tornLongWrites() {
        for (int keep = 42; keep <= 50; keep++) {
            LockHouse x = Houses.withCards(50);
            Houses.revoke(x, 0, 45);
            x.tear(48, keep);
            x.gate(48);
            String when = "44 words, torn after " + keep;
            boolean whole = keep >= 44;
            CHECKS.due(when + ": written(48)", Math.min(keep, 44), () -> x.written(48));
            CHECKS.due(when + ": carries(48, 1)", whole ? 40 : 0, () -> x.carries(48, 1));
            words(when, x, 48, 1, 42, keep >= 43 ? 44 : 0, whole ? 296 : 0);
        }
    }

    private static void tornOverAWholeImage() {
        LockHouse x = Houses.withCards(9);
        x.revoke(0);
        x.gate(8);
        x.revoke(1);
        x.gate(8);
        x.revoke(2);
        x.tear(8, 5);
        x.gate(8);
        CHECKS.due("over a whole image: carries(8, 0)", 0, () -> x.carries(8, 0));
        CHECKS.due("over a whole image: carries(8, 1)", 2, () -> x.carries(8, 1));
        CHECKS.due("over a whole image: carries(8, 3)", 2, () -> x.carries(8, 3));
        words("over a whole image", x, 8, 1, 0, 771, 1, 3, 0, 1, 0);
        words("over a whole image", x, 8, 1, 43, 257);
        CHECKS.due("over a whole image: show(8, 0, 0)", LockHouse.ADMITTED, () -> x.show(8, 0, 0));
        CHECKS.due("over a whole image: about(0, 3)", 2, () -> x.about(0, 3));
        CHECKS.due("over a whole image: about(0, 1)", 2, () -> x.about(0, 1));
        x.gate(8);
        words("written anew", x, 8, 1, 0, 771, 1, 3, 0, 1, 2);
        words("written anew", x, 8, 1, 43, 771);
        CHECKS.due("written anew: carries(8, 0)", 1, () -> x.carries(8, 0));
    }

    private static void tearWaitsForAWrite() {
        LockHouse x = Houses.withCards(5);
        x.tear(1, 2);
        x.gate(1);
        x.show(1, 0, 0);
        x.revoke(4);
        x.gate(1);
        CHECKS.due("waited without entries: written(1)", 2, () -> x.written(1));
        x.gate(1);
        CHECKS.due("then whole: written(1)", 7, () -> x.written(1));
        x.tear(1, 1);
        x.gate(1);
        x.show(1, 0, 0);
        CHECKS.due("nothing to write: written(1)", 7, () -> x.written(1));
        x.revoke(3);
        x.gate(1);
        CHECKS.due("waited with entries: written(1)", 8, () -> x.written(1));
        CHECKS.due("waited with entries: carries(1, 1)", 1, () -> x.carries(1, 1));
    }

    private static void tearAtADoor() {
        LockHouse x = Houses.withCards(5);
        x.revoke(4);
        Houses.bring(x, 0, 3);
        x.tear(1, 3);
        CHECKS.due("torn at a door: show(1, 3, 0)", LockHouse.ADMITTED, () -> x.show(1, 3, 0));
        CHECKS.due("torn at a door: written(1)", 3, () -> x.written(1));
        CHECKS.due("torn at a door: carries(1, 1)", 0, () -> x.carries(1, 1));
        words("torn at a door", x, 1, 1, 0, 257, 1, 0, 0);
        x.show(1, 3, 0);
        CHECKS.due("whole at a door: written(1)", 8, () -> x.written(1));
        words("whole at a door", x, 1, 1, 0, 257, 1, 0, 4);
        CHECKS.due("whole at a door: carries(1, 3)", 0, () -> x.carries(1, 3));
    }

    private static void laterTearReplacesEarlier() {
        LockHouse x = Houses.withCards(3);
        x.revoke(2);
        x.tear(0, 1);
        x.tear(0, 3);
        x.gate(0);
        CHECKS.due("the later tear: written(0)", 3, () -> x.written(0));
        x.tear(1, 0);
        x.tear(1, 50);
        x.gate(1);
        CHECKS.due("the later tear: written(1)", 5, () -> x.written(1));
        x.revoke(1);
        x.gate(1);
        CHECKS.due("the earlier is gone: written(1)", 11, () -> x.written(1));
    }

    private static void tearOfOneCardAlone() {
        LockHouse x = Houses.withCards(3);
        x.revoke(2);
        x.tear(0, 1);
        x.gate(1);
        CHECKS.due("another card: written(1)", 5, () -> x.written(1));
        x.gate(0);
        CHECKS.due("the card itself: written(0)", 1, () -> x.written(0));
    }

    private static void tearWithWrongInputs() {
        LockHouse x = Houses.withCards(3);
        x.revoke(2);
        CHECKS.noSuch("tear(3, 1)", () -> x.tear(3, 1));
        CHECKS.noSuch("tear(-1, 1)", () -> x.tear(-1, 1));
        CHECKS.noSuch("tear(3, 51)", () -> x.tear(3, 51));
        CHECKS.noSuch("tear(MIN, MIN)", () -> x.tear(MIN, MIN));
        CHECKS.noSuch("tear(MAX, MAX)", () -> x.tear(MAX, MAX));
        CHECKS.badArgument("tear(0, -1)", () -> x.tear(0, -1));
        CHECKS.badArgument("tear(0, 51)", () -> x.tear(0, 51));
        CHECKS.badArgument("tear(0, MIN)", () -> x.tear(0, MIN));
        CHECKS.badArgument("tear(0, MAX)", () -> x.tear(0, MAX));
        x.gate(0);
        CHECKS.due("after throws: written(0)", 5, () -> x.written(0));
        x.tear(1, 2);
        CHECKS.badArgument("tear(1, 51)", () -> x.tear(1, 51));
        x.gate(1);
        CHECKS.due("an earlier tear stays: written(1)", 2, () -> x.written(1));
        CHECKS.noSuch("written(3)", () -> x.written(3));
        CHECKS.noSuch("written(-1)", () -> x.written(-1));
        CHECKS.noSuch("written(MIN)", () -> x.written(MIN));
        CHECKS.noSuch("written(MAX)", () -> x.written(MAX));
    }

    private static void wordWithWrongInputs() {
        LockHouse x = Houses.withCards(2);
        int[][] wrong = {{2, 0, 0}, {-1, 0, 0}, {0, 2, 0}, {0, -1, 0}, {0, 0, 44}, {0, 0, -1}, {0, 1, 44},
            {MAX, 0, 0}, {MIN, 0, 0}, {0, MAX, 0}, {0, MIN, 0}, {0, 0, MAX}, {0, 0, MIN}, {0, 1, -44}};
        for (int[] w : wrong) {
            CHECKS.noSuch("word(" + w[0] + ", " + w[1] + ", " + w[2] + ")", () -> x.word(w[0], w[1], w[2]));
        }
    }

    private static void carriesWithWrongInputs() {
        LockHouse x = Houses.withCards(2);
        CHECKS.noSuch("carries(2, 0)", () -> x.carries(2, 0));
        CHECKS.noSuch("carries(-1, 0)", () -> x.carries(-1, 0));
        CHECKS.noSuch("carries(2, 4)", () -> x.carries(2, 4));
        CHECKS.noSuch("carries(MIN, -1)", () -> x.carries(MIN, -1));
        CHECKS.noSuch("carries(MAX, 9)", () -> x.carries(MAX, 9));
        CHECKS.badArgument("carries(1, 4)", () -> x.carries(1, 4));
        CHECKS.badArgument("carries(1, -1)", () -> x.carries(1, -1));
        CHECKS.badArgument("carries(1, MIN)", () -> x.carries(1, MIN));
        CHECKS.badArgument("carries(1, MAX)", () -> x.carries(1, MAX));
    }

    private static void memoryWithWrongInputs() {
        LockHouse x = Houses.withCards(50);
        CHECKS.noSuch("memory(0, 0) of an empty card", () -> x.memory(0, 0));
        CHECKS.noSuch("memory(50, 0)", () -> x.memory(50, 0));
        CHECKS.noSuch("memory(-1, 0)", () -> x.memory(-1, 0));
        x.revoke(20);
        x.gate(0);
        CHECKS.due("memory(0, 0)", 20, () -> x.memory(0, 0));
        CHECKS.noSuch("memory(0, 1)", () -> x.memory(0, 1));
        CHECKS.noSuch("memory(0, -1)", () -> x.memory(0, -1));
        Houses.revoke(x, 0, 45);
        x.gate(0);
        CHECKS.due("memory(0, 39)", 44, () -> x.memory(0, 39));
        CHECKS.noSuch("memory(0, 40)", () -> x.memory(0, 40));
        CHECKS.noSuch("memory(0, MAX)", () -> x.memory(0, MAX));
        CHECKS.noSuch("memory(0, MIN)", () -> x.memory(0, MIN));
        CHECKS.noSuch("memory(MAX, 0)", () -> x.memory(MAX, 0));
    }
}
