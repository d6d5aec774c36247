import java.util.ArrayList;
import java.util.Arrays;
import java.util.List;
import java.util.TreeMap;

/**
 * The document once more, told with maps and lists and by its own words as far as they go; a door
 * here keeps the entries that cards really brought, number and card.
 */
final class PlainHouse {
    private static final class PlainCard {
        final int zones;
        final int endDay;
        final int[][] images = new int[2][44];
        Integer tearAfter = null;
        int written = 0;

        PlainCard(int zones, int endDay) {
            this.zones = zones;
            this.endDay = endDay;
        }

        int current() {
            boolean whole0 = images[0][0] == images[0][43];
            boolean whole1 = images[1][0] == images[1][43];
            if (whole0 && whole1) {
                return (byte) (images[1][0] / 256 - images[0][0] / 256) > 0 ? 1 : 0;
            }
            if (!whole0 && !whole1) {
                throw new AssertionError("no image is whole");
            }
            return whole1 ? 1 : 0;
        }

        int seen() {
            return images[current()][2];
        }

        TreeMap<Integer, Integer> run() {
            int[] image = images[current()];
            TreeMap<Integer, Integer> run = new TreeMap<>();
            for (int i = 0; i < image[0] % 256; i++) {
                run.put(image[1] + i, image[3 + i]);
            }
            return run;
        }

        void write(TreeMap<Integer, Integer> run, int seen) {
            if (run.equals(run()) && seen == seen()) {
                return;
            }
            int[] target = images[1 - current()];
            int head = (images[current()][0] / 256 + 1) % 256 * 256 + run.size();
            List<int[]> writes = new ArrayList<>();
            writes.add(new int[] {0, head});
            writes.add(new int[] {1, run.isEmpty() ? 0 : run.firstKey()});
            writes.add(new int[] {2, seen});
            for (int number : run.values()) {
                writes.add(new int[] {writes.size(), number});
            }
            writes.add(new int[] {43, head});
            int kept = tearAfter == null ? writes.size() : Math.min(tearAfter, writes.size());
            tearAfter = null;
            for (int[] write : writes.subList(0, kept)) {
                target[write[0]] = write[1];
            }
            written += kept;
        }
    }

    private static final class PlainDoor {
        final TreeMap<Integer, Integer> has = new TreeMap<>();
        int zone = 0;
        int heard = 0;
        boolean shown = false;

        List<int[]> runs() {
            List<int[]> runs = new ArrayList<>();
            for (int entry : has.keySet()) {
                if (runs.isEmpty() || runs.get(runs.size() - 1)[1] != entry - 1) {
                    runs.add(new int[] {entry, entry});
                }
                runs.get(runs.size() - 1)[1] = entry;
            }
            return runs;
        }

        int complete() {
            return has.containsKey(1) ? runs().get(0)[1] : 0;
        }
    }

    private final List<PlainCard> cards = new ArrayList<>();
    private final TreeMap<Integer, Integer> made = new TreeMap<>();
    private final PlainDoor[] doors = new PlainDoor[200];
    private final int[][] visits = new int[200][];

    PlainHouse() {
        Arrays.setAll(doors, i -> new PlainDoor());
    }

    private static void index(boolean exists) {
        if (!exists) {
            throw new IndexOutOfBoundsException();
        }
    }

    private PlainCard card(int card) {
        index(card >= 0 && card < cards.size());
        return cards.get(card);
    }

    private PlainDoor door(int door) {
        index(door >= 0 && door < 200);
        return doors[door];
    }

    int issue(int zones, int endDay) {
        if (cards.size() == 4000) {
            throw new IllegalStateException();
        }
        cards.add(new PlainCard(zones, endDay));
        return cards.size() - 1;
    }

    int cards() {
        return cards.size();
    }

    int revoke(int card) {
        card(card);
        if (made.containsValue(card)) {
            return -1;
        }
        if (made.size() == 3000) {
            throw new IllegalStateException();
        }
        made.put(made.size() + 1, card);
        return made.size();
    }

    int entries() {
        return made.size();
    }

    int gate(int card) {
        card(card).write(new TreeMap<>(made.tailMap(made.size() - 40, false)), made.size());
        return 0;
    }

    int zoneOf(int door, int zone) {
        PlainDoor d = door(door);
        if (zone < 0 || zone > 31) {
            throw new IllegalArgumentException();
        }
        if (d.shown) {
            throw new IllegalStateException();
        }
        d.zone = zone;
        return 0;
    }

    int show(int card, int door, int day) {
        PlainCard c = card(card);
        PlainDoor d = door(door);
        d.shown = true;
        d.has.putAll(c.run());
        d.heard = Math.max(d.heard, c.seen());
        int answer;
        if (d.has.containsValue(card)) {
            answer = 1;
        } else if (c.endDay < day) {
            answer = 2;
        } else if ((c.zones & (1 << d.zone)) == 0) {
            answer = 3;
        } else {
            answer = 0;
        }
        if (!d.has.isEmpty()) {
            int[] last = d.runs().get(d.runs().size() - 1);
            int first = Math.max(last[0], last[1] - 39);
            c.write(new TreeMap<>(d.has.subMap(first, true, last[1], true)), c.seen());
        }
        return answer;
    }

    int tear(int card, int keep) {
        PlainCard c = card(card);
        if (keep < 0 || keep > 50) {
            throw new IllegalArgumentException();
        }
        c.tearAfter = keep;
        return 0;
    }

    int written(int card) {
        return card(card).written;
    }

    int word(int card, int image, int i) {
        PlainCard c = card(card);
        index(image == 0 || image == 1);
        index(i >= 0 && i < 44);
        return (short) c.images[image][i];
    }

    int carries(int card, int what) {
        PlainCard c = card(card);
        int[] image = c.images[c.current()];
        return switch (what) {
            case 0 -> c.current();
            case 1 -> image[0] % 256;
            case 2 -> image[1];
            case 3 -> image[2];
            default -> throw new IllegalArgumentException();
        };
    }

    int memory(int card, int i) {
        List<Integer> numbers = new ArrayList<>(card(card).run().values());
        index(i >= 0 && i < numbers.size());
        return numbers.get(i);
    }

    int about(int door, int what) {
        PlainDoor d = door(door);
        return switch (what) {
            case 0 -> d.complete();
            case 1 -> Math.max(d.has.isEmpty() ? 0 : d.has.lastKey(), d.heard);
            case 2 -> Math.max(0, d.heard - d.complete());
            case 3 -> d.has.size();
            case 4 -> d.runs().size();
            default -> throw new IllegalArgumentException();
        };
    }

    int run(int door, int i, boolean first) {
        List<int[]> runs = door(door).runs();
        index(i >= 0 && i < runs.size());
        return runs.get(i)[first ? 0 : 1];
    }

    int refuses(int door, int card) {
        PlainDoor d = door(door);
        card(card);
        return d.has.containsValue(card) ? 1 : 0;
    }

    int reach(int entry) {
        index(made.containsKey(entry));
        int count = 0;
        for (PlainDoor d : doors) {
            count += d.has.containsKey(entry) ? 1 : 0;
        }
        return count;
    }

    int loseBattery(int door) {
        door(door).heard = 0;
        return 0;
    }

    int visit(int i, int card, int door, int day) {
        index(i >= 0 && i < 200);
        card(card);
        door(door);
        visits[i] = new int[] {card, door, day};
        return 0;
    }

    int spread(int n) {
        if (n < 0 || n > 200) {
            throw new IllegalArgumentException();
        }
        int admitted = 0;
        for (int i = 0; i < n; i++) {
            if (visits[i] != null && show(visits[i][0], visits[i][1], visits[i][2]) == 0) {
                admitted++;
            }
        }
        return admitted;
    }
}
