import java.util.ArrayList;
import java.util.Arrays;

/**
 * A house with door locks that have no line to anywhere: cards that people carry bring pieces of
 * the list of revoked cards from the gate to doors, and from door to door.
 */
public final class LockHouse {
    public static final int NONE = -1;
    public static final int ADMITTED = 0, REVOKED = 1, ENDED = 2, NO_RIGHT = 3;

    private static final int MOST_CARDS = 4000;
    private static final int MOST_ENTRIES = 3000;
    private static final int LONGEST_RUN = 40;
    private static final int DOORS = 200;
    private static final int ZONES = 32;
    private static final int VISITS = 200;
    private static final int MOST_TO_KEEP = 50;

    private final ArrayList<Card> issued = new ArrayList<>();
    private final EntryList list = new EntryList();
    private final Door[] doors = new Door[DOORS];
    private final int[] visitCard = new int[VISITS];
    private final int[] visitDoor = new int[VISITS];
    private final int[] visitDay = new int[VISITS];

    public LockHouse() {
        for (int i = 0; i < doors.length; i++) {
            doors[i] = new Door(i);
        }
        Arrays.fill(visitCard, NONE);
    }

    public int issue(int zones, int endDay) throws IllegalStateException {
        if (issued.size() >= MOST_CARDS) {
            throw new IllegalStateException("no more cards can be issued");
        }
        issued.add(new Card(zones, endDay));
        return issued.size() - 1;
    }

    public int cards() {
        return issued.size();
    }

    public int revoke(int card) throws IndexOutOfBoundsException, IllegalStateException {
        Card revoked = cardAt(card);
        if (revoked.entry != 0) {
            return NONE;
        }
        if (list.made() >= MOST_ENTRIES) {
            throw new IllegalStateException("no more entries can be made");
        }
        revoked.entry = list.append(card);
        return revoked.entry;
    }

    public int entries() {
        return list.made();
    }

    public void gate(int card) throws IndexOutOfBoundsException {
        Card atGate = cardAt(card);
        int made = list.made();
        int count = Math.min(made, LONGEST_RUN);
        int first = count == 0 ? 0 : made - count + 1;
        atGate.store(first, count, made, list);
    }

    public void zoneOf(int door, int zone)
            throws IndexOutOfBoundsException, IllegalArgumentException, IllegalStateException {
        Door placed = doorAt(door);
        if (zone < 0 || zone >= ZONES) {
            throw new IllegalArgumentException("no such zone");
        }
        if (placed.used) {
            throw new IllegalStateException("a card was shown there already");
        }
        placed.zone = zone;
    }

    public int show(int card, int door, int day) throws IndexOutOfBoundsException {
        Card shown = cardAt(card);
        Door at = doorAt(door);
        return present(shown, at, day);
    }

    public void tear(int card, int keep) throws IndexOutOfBoundsException, IllegalArgumentException {
        Card torn = cardAt(card);
        if (keep < 0 || keep > MOST_TO_KEEP) {
            throw new IllegalArgumentException("no such number of words");
        }
        torn.keep = keep;
    }

    public int written(int card) throws IndexOutOfBoundsException {
        return cardAt(card).wordsWritten;
    }

    public int word(int card, int image, int i) throws IndexOutOfBoundsException {
        Card read = cardAt(card);
        if (image < 0 || image > 1 || i < 0 || i >= Image.WORDS) {
            throw new IndexOutOfBoundsException("no such word");
        }
        return read.image(image).at(i);
    }

    public int carries(int card, int what) throws IndexOutOfBoundsException, IllegalArgumentException {
        Card read = cardAt(card);
        switch (what) {
            case 0:
                return read.currentIndex();
            case 1:
                return read.current().count();
            case 2:
                return read.current().at(Image.FIRST);
            case 3:
                return read.current().at(Image.SEEN);
            default:
                throw new IllegalArgumentException("a card carries no such thing");
        }
    }

    public int memory(int card, int i) throws IndexOutOfBoundsException {
        Image current = cardAt(card).current();
        if (i < 0 || i >= current.count()) {
            throw new IndexOutOfBoundsException("no such entry on the card");
        }
        return current.at(Image.NUMBERS + i);
    }

    public int about(int door, int what) throws IndexOutOfBoundsException, IllegalArgumentException {
        Door asked = doorAt(door);
        switch (what) {
            case 0:
                return asked.complete(list);
            case 1:
                return Math.max(asked.greatest, asked.heard);
            case 2:
                return Math.max(asked.heard - asked.complete(list), 0);
            case 3:
                return asked.countEntries(list);
            case 4:
                return asked.countRuns(list);
            default:
                throw new IllegalArgumentException("there is no such thing about a door");
        }
    }

    public int run(int door, int i, boolean first) throws IndexOutOfBoundsException {
        Door asked = doorAt(door);
        int start = asked.startOfRun(i, list);
        if (start == 0) {
            throw new IndexOutOfBoundsException("no such run");
        }
        return first ? start : asked.endOfRun(start, list);
    }

    public boolean refuses(int door, int card) throws IndexOutOfBoundsException {
        Door asked = doorAt(door);
        return asked.has(cardAt(card).entry, list);
    }

    public int reach(int entry) throws IndexOutOfBoundsException {
        if (entry < 1 || entry > list.made()) {
            throw new IndexOutOfBoundsException("no such entry");
        }
        return list.countDoorsWith(entry);
    }

    public void loseBattery(int door) throws IndexOutOfBoundsException {
        doorAt(door).heard = 0;
    }

    public void visit(int i, int card, int door, int day) throws IndexOutOfBoundsException {
        if (i < 0 || i >= VISITS || !isCard(card) || !isDoor(door)) {
            throw new IndexOutOfBoundsException("no such visit, card or door");
        }
        visitCard[i] = card;
        visitDoor[i] = door;
        visitDay[i] = day;
    }

    public int spread(int n) throws IllegalArgumentException {
        if (n < 0 || n > VISITS) {
            throw new IllegalArgumentException("no such number of visits");
        }
        int admitted = 0;
        for (int i = 0; i < n; i++) {
            // a visit that is none has no card, so it is left out here
            if (isCard(visitCard[i]) && isDoor(visitDoor[i])
                    && present(issued.get(visitCard[i]), doors[visitDoor[i]], visitDay[i]) == ADMITTED) {
                admitted++;
            }
        }
        return admitted;
    }

    private boolean isCard(int card) {
        return card >= 0 && card < issued.size();
    }

    private boolean isDoor(int door) {
        return door >= 0 && door < doors.length;
    }

    private Card cardAt(int card) {
        if (!isCard(card)) {
            throw new IndexOutOfBoundsException("no such card");
        }
        return issued.get(card);
    }

    private Door doorAt(int door) {
        if (!isDoor(door)) {
            throw new IndexOutOfBoundsException("no such door");
        }
        return doors[door];
    }

    private int present(Card card, Door door, int day) {
        door.take(card.current(), list);
        int answer = door.judge(card, day, list);
        door.pass(card, list);
        return answer;
    }

    /** One of the two images of a card. */
    private static final class Image {
        static final int WORDS = 44;
        static final int HEAD = 0;
        static final int FIRST = 1;
        static final int SEEN = 2;
        static final int NUMBERS = 3;
        static final int TAIL = 43;

        private final short[] words = new short[WORDS];

        int at(int i) {
            return i >= 0 && i < words.length ? words[i] : 0;
        }

        void put(int i, int value) {
            if (i >= 0 && i < words.length) {
                words[i] = (short) value;
            }
        }

        boolean isWhole() {
            return at(HEAD) == at(TAIL);
        }

        int sequence() {
            return (at(HEAD) >> 8) & 255;
        }

        int count() {
            return at(HEAD) & 255;
        }

        // The card of an entry never changes, so FIRST and the count tell the numbers of cards too.
        boolean tells(int first, int count, int seen) {
            return at(FIRST) == first && count() == count && at(SEEN) == seen;
        }
    }

    /** A card that was issued. */
    private static final class Card {
        private static final int NOT_TO_TEAR = -1;

        private final int zones;
        private final int endDay;
        private final Image image0 = new Image();
        private final Image image1 = new Image();
        // the entry that revokes the card, 0 while there is none
        private int entry = 0;
        private int keep = NOT_TO_TEAR;
        private int wordsLeft = 0;
        private int wordsWritten = 0;

        Card(int zones, int endDay) {
            this.zones = zones;
            this.endDay = endDay;
        }

        Image image(int index) {
            return index == 0 ? image0 : image1;
        }

        // A write goes to the image that is not current, so the current one stays whole.
        int currentIndex() {
            if (!image1.isWhole()) {
                return 0;
            }
            if (!image0.isWhole()) {
                return 1;
            }
            byte ahead = (byte) (image1.sequence() - image0.sequence());
            return ahead > 0 ? 1 : 0;
        }

        Image current() {
            return image(currentIndex());
        }

        void store(int first, int count, int seen, EntryList list) {
            int from = currentIndex();
            if (image(from).tells(first, count, seen)) {
                return;
            }
            int next = (image(from).sequence() + 1) & 255;
            int head = 256 * next + count;
            Image target = image(1 - from);
            wordsLeft = keep == NOT_TO_TEAR ? Image.WORDS : keep;
            keep = NOT_TO_TEAR;
            putNext(target, Image.HEAD, head);
            putNext(target, Image.FIRST, first);
            putNext(target, Image.SEEN, seen);
            for (int k = 0; k < count; k++) {
                putNext(target, Image.NUMBERS + k, list.cardOf(first + k));
            }
            putNext(target, Image.TAIL, head);
        }

        private void putNext(Image target, int i, int value) {
            if (wordsLeft > 0) {
                target.put(i, value);
                wordsLeft--;
                wordsWritten++;
            }
        }

        boolean opens(int zone) {
            return ((zones >>> zone) & 1) == 1;
        }
    }

    /** An entry that the gate made, with the doors that have it. */
    private static final class Entry {
        private final int card;
        private final boolean[] atDoor = new boolean[DOORS];

        Entry(int card) {
            this.card = card;
        }

        boolean isAt(int door) {
            return door >= 0 && door < atDoor.length && atDoor[door];
        }

        void bringTo(int door) {
            if (door >= 0 && door < atDoor.length) {
                atDoor[door] = true;
            }
        }

        int countDoors() {
            int count = 0;
            for (boolean there : atDoor) {
                if (there) {
                    count++;
                }
            }
            return count;
        }
    }

    /** The entries that the gate made, numbered from 1 on. */
    private static final class EntryList {
        private final ArrayList<Entry> inOrder = new ArrayList<>();

        int made() {
            return inOrder.size();
        }

        int append(int card) {
            inOrder.add(new Entry(card));
            return inOrder.size();
        }

        private boolean holds(int number) {
            return number >= 1 && number <= inOrder.size();
        }

        int cardOf(int number) {
            return holds(number) ? inOrder.get(number - 1).card : NONE;
        }

        boolean isAt(int number, int door) {
            return holds(number) && inOrder.get(number - 1).isAt(door);
        }

        void bringTo(int number, int door) {
            if (holds(number)) {
                inOrder.get(number - 1).bringTo(door);
            }
        }

        int countDoorsWith(int number) {
            return holds(number) ? inOrder.get(number - 1).countDoors() : 0;
        }
    }

    /** A door; which entries it has is kept with the entries. */
    private static final class Door {
        private final int number;
        private int zone = 0;
        private int heard = 0;
        // the greatest entry it has, 0 for none
        private int greatest = 0;
        // a lost battery clears HEARD, but not that a card was shown here
        private boolean used = false;

        Door(int number) {
            this.number = number;
        }

        boolean has(int entry, EntryList list) {
            return list.isAt(entry, number);
        }

        void take(Image image, EntryList list) {
            int first = image.at(Image.FIRST);
            int count = image.count();
            for (int k = 0; k < count; k++) {
                list.bringTo(first + k, number);
            }
            if (count > 0) {
                greatest = Math.max(greatest, first + count - 1);
            }
            heard = Math.max(heard, image.at(Image.SEEN));
            used = true;
        }

        int judge(Card card, int day, EntryList list) {
            if (has(card.entry, list)) {
                return REVOKED;
            }
            if (card.endDay < day) {
                return ENDED;
            }
            return card.opens(zone) ? ADMITTED : NO_RIGHT;
        }

        void pass(Card card, EntryList list) {
            if (greatest == 0) {
                return;
            }
            int count = 1;
            while (count < LONGEST_RUN && has(greatest - count, list)) {
                count++;
            }
            card.store(greatest - count + 1, count, card.current().at(Image.SEEN), list);
        }

        int complete(EntryList list) {
            return endOfRun(0, list);
        }

        int countEntries(EntryList list) {
            int count = 0;
            for (int entry = 1; entry <= list.made(); entry++) {
                if (has(entry, list)) {
                    count++;
                }
            }
            return count;
        }

        int countRuns(EntryList list) {
            int count = 0;
            for (int entry = 1; entry <= list.made(); entry++) {
                if (startsRun(entry, list)) {
                    count++;
                }
            }
            return count;
        }

        /** The first entry of run i, or 0 when there is no such run. */
        int startOfRun(int i, EntryList list) {
            int before = 0;
            for (int entry = 1; entry <= list.made(); entry++) {
                if (startsRun(entry, list)) {
                    if (before == i) {
                        return entry;
                    }
                    before++;
                }
            }
            return 0;
        }

        int endOfRun(int start, EntryList list) {
            int end = start;
            while (end < list.made() && has(end + 1, list)) {
                end++;
            }
            return end;
        }

        private boolean startsRun(int entry, EntryList list) {
            return has(entry, list) && !has(entry - 1, list);
        }
    }
}
