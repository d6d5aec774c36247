import java.util.Random;
import java.util.function.LongSupplier;

/** Runs of 512 drawn calls, the same every time: LockHouse must answer as PlainHouse does. */
public final class ModelTest {
    private static final int RUNS = 1500;
    private static final int CALLS = 512;
    private static final int[] WILD = {Integer.MIN_VALUE, Integer.MIN_VALUE + 1, -256, -44, -2, -1, 0, 1, 2, 5, 31, 32,
        40, 43, 44, 50, 51, 199, 200, 201, 255, 256, 3000, 4000, 65536, Integer.MAX_VALUE - 1, Integer.MAX_VALUE};
    private static final Checks CHECKS = new Checks();

    private final Random random;
    private final LockHouse x = new LockHouse();
    private final PlainHouse y = new PlainHouse();
    private final int seed;
    private final int doors;
    private final int wildness;
    private int calls = 0;

    private ModelTest(int seed) {
        this.seed = seed;
        random = new Random(seed);
        doors = 1 + random.nextInt(random.nextBoolean() ? 4 : 20);
        wildness = 5 + random.nextInt(60);
    }

    public static void main(String[] args) {
        for (int seed = 0; seed < RUNS; seed++) {
            new ModelTest(seed).play();
        }
        CHECKS.end();
    }

    private void play() {
        int begin = random.nextInt(120);
        for (int i = 0; i < begin; i++) {
            issue();
        }
        int revoked = random.nextInt(1 + begin);
        for (int i = 0; i < revoked; i++) {
            int card = i;
            both("revoke(" + card + ")", () -> x.revoke(card), () -> y.revoke(card));
            if (random.nextInt(3) == 0) {
                change();
            }
        }
        while (calls < CALLS) {
            if (random.nextBoolean()) {
                change();
            } else {
                ask();
            }
        }
    }

    private boolean wild() {
        return random.nextInt(wildness) == 0;
    }

    private int anything() {
        return WILD[random.nextInt(WILD.length)];
    }

    private int card() {
        int cards = Math.max(1, y.cards());
        if (wild()) {
            return random.nextBoolean() ? anything() : cards;
        }
        // the last few cards come often, so that the same ones go from door to door
        return random.nextBoolean() ? random.nextInt(cards) : Math.max(0, cards - 1 - random.nextInt(5));
    }

    private int door() {
        return wild() ? anything() : 199 - random.nextInt(doors);
    }

    private int below(int bound) {
        return wild() ? anything() : random.nextInt(bound);
    }

    private void issue() {
        int zones = random.nextInt(3) == 0 ? random.nextInt() : -1;
        int day = wild() ? anything() : 5 + random.nextInt(10);
        both("issue(" + zones + ", " + day + ")", () -> x.issue(zones, day), () -> y.issue(zones, day));
    }

    private void change() {
        int card = card();
        int door = door();
        int day = below(10);
        switch (random.nextInt(14)) {
            case 0 -> issue();
            case 1, 2 -> both("revoke(" + card + ")", () -> x.revoke(card), () -> y.revoke(card));
            case 3, 4, 5 -> both("gate(" + card + ")", () -> {
                x.gate(card);
                return 0;
            }, () -> y.gate(card));
            case 6 -> {
                int zone = below(32);
                both("zoneOf(" + door + ", " + zone + ")", () -> {
                    x.zoneOf(door, zone);
                    return 0;
                }, () -> y.zoneOf(door, zone));
            }
            case 7 -> {
                int keep = below(random.nextBoolean() ? 8 : 51);
                both("tear(" + card + ", " + keep + ")", () -> {
                    x.tear(card, keep);
                    return 0;
                }, () -> y.tear(card, keep));
            }
            case 8 -> {
                if (random.nextInt(4) == 0) {
                    both("loseBattery(" + door + ")", () -> {
                        x.loseBattery(door);
                        return 0;
                    }, () -> y.loseBattery(door));
                }
            }
            case 9 -> {
                int i = below(random.nextBoolean() ? 8 : 200);
                both("visit(" + i + ", " + card + ", " + door + ", " + day + ")", () -> {
                    x.visit(i, card, door, day);
                    return 0;
                }, () -> y.visit(i, card, door, day));
            }
            case 10 -> {
                int n = below(random.nextBoolean() ? 8 : 201);
                both("spread(" + n + ")", () -> x.spread(n), () -> y.spread(n));
            }
            default -> both("show(" + card + ", " + door + ", " + day + ")", () -> x.show(card, door, day),
                    () -> y.show(card, door, day));
        }
    }

    private void ask() {
        int card = card();
        int door = door();
        switch (random.nextInt(11)) {
            case 0 -> both("cards()", x::cards, y::cards);
            case 1 -> both("entries()", x::entries, y::entries);
            case 2 -> both("written(" + card + ")", () -> x.written(card), () -> y.written(card));
            case 3, 4 -> {
                int image = below(2);
                int i = random.nextInt(4) == 0 ? 43 : below(random.nextBoolean() ? 6 : 44);
                both("word(" + card + ", " + image + ", " + i + ")", () -> x.word(card, image, i),
                        () -> y.word(card, image, i));
            }
            case 5 -> {
                int what = below(4);
                both("carries(" + card + ", " + what + ")", () -> x.carries(card, what), () -> y.carries(card, what));
            }
            case 6 -> {
                int i = below(random.nextBoolean() ? 5 : 41);
                both("memory(" + card + ", " + i + ")", () -> x.memory(card, i), () -> y.memory(card, i));
            }
            case 7 -> {
                int what = below(5);
                both("about(" + door + ", " + what + ")", () -> x.about(door, what), () -> y.about(door, what));
            }
            case 8 -> {
                int i = below(3);
                boolean first = random.nextBoolean();
                both("run(" + door + ", " + i + ", " + first + ")", () -> x.run(door, i, first),
                        () -> y.run(door, i, first));
            }
            case 9 -> both("refuses(" + door + ", " + card + ")", () -> x.refuses(door, card) ? 1 : 0,
                    () -> y.refuses(door, card));
            default -> {
                int entry = below(y.entries() + 2);
                both("reach(" + entry + ")", () -> x.reach(entry), () -> y.reach(entry));
            }
        }
    }

    private void both(String call, LongSupplier asked, LongSupplier due) {
        if (calls >= CALLS) {
            return;
        }
        calls++;
        String name = "run " + seed + ", call " + calls + ": " + call;
        long want;
        try {
            want = due.getAsLong();
        } catch (IndexOutOfBoundsException | IllegalArgumentException | IllegalStateException e) {
            CHECKS.thrown(name, e.getClass(), asked::getAsLong);
            return;
        }
        CHECKS.due(name, want, asked);
    }
}
