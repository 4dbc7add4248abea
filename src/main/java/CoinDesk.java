/**
 * Coins by names and indexes: made and spent in blocks, each of which leaves one record by which
 * it can be taken back, the latest first.
 */
public final class CoinDesk {
    private static final int FEWEST_UNSPENT = 2;
    private static final int MOST_UNSPENT = 200;
    private static final int USUAL_UNSPENT = 60;
    private static final int MOST_RECORDS = 64;
    private static final int MOST_SCRIPT_BYTES = 200;
    private static final int BYTES_OF_A_LONG = 8;

    private static final int NO_FAULT = 0;
    private static final int NO_OPEN_BLOCK = 1;
    private static final int WRONG_KEY = 2;
    private static final int NO_ROOM = 3;

    private static final int REFUSED = -1;
    private static final int NONE = -1;

    private final Key keyInHand = new Key();
    private final Script scriptInHand = new Script();
    private final int mostSpent;
    private final Pile unspentCoins;
    // Coins that are gone wait here to be used again, so that no run makes more than it can hold.
    private final Pile blankCoins;
    private final Journal journal;
    private int height;
    private boolean open;

    public CoinDesk(int unspent) {
        int most = unspentLimit(unspent);
        mostSpent = 2 * most;
        unspentCoins = new Pile(most);
        blankCoins = new Pile(most + mostSpent);
        // The records tell at most mostSpent spendings; and each coin that they made is spent and
        // kept, or unspent, so they tell at most mostSpent + most makings.
        journal = new Journal(most + 2 * mostSpent);
    }

    public void key(long a, long b, long c, long d, int index) {
        keyInHand.tell(a, b, c, d, index);
    }

    public void empty() {
        scriptInHand.clear();
    }

    public boolean put(long v, int n) {
        if (n < 1 || n > BYTES_OF_A_LONG || n > scriptInHand.room()) {
            return false;
        }
        for (int i = n - 1; i >= 0; i--) {
            scriptInHand.append((byte) (v >>> (8 * i)));
        }
        return true;
    }

    public boolean begin() {
        if (open || journal.isFull()) {
            return false;
        }
        journal.addRecord();
        open = true;
        return true;
    }

    public int make(long value, boolean first) {
        if (!open) {
            return NO_OPEN_BLOCK;
        }
        if (coinInHand() != null) {
            return WRONG_KEY;
        }
        if (unspentCoins.isFull()) {
            return NO_ROOM;
        }
        Coin coin = blankCoin();
        coin.tell(value, height, first);
        coin.key.copy(keyInHand);
        coin.script.copy(scriptInHand);
        unspentCoins.add(coin);
        journal.note(coin, false);
        return NO_FAULT;
    }

    public int spend() {
        if (!open) {
            return NO_OPEN_BLOCK;
        }
        Coin coin = coinInHand();
        if (coin == null) {
            return WRONG_KEY;
        }
        if (journal.spent() >= mostSpent) {
            return NO_ROOM;
        }
        unspentCoins.remove(keyInHand);
        journal.note(coin, true);
        return NO_FAULT;
    }

    public int end() {
        if (!open) {
            return REFUSED;
        }
        open = false;
        height++;
        return journal.latestLength();
    }

    public int back() {
        if (journal.records() < 1) {
            return REFUSED;
        }
        int undone = journal.latestLength();
        for (int i = 0; i < undone; i++) {
            undoLatest();
        }
        journal.dropLatestRecord();
        // An open block has not been ended, so the height does not count it yet.
        if (open) {
            open = false;
        } else {
            height--;
        }
        return undone;
    }

    public int forget() {
        int ended = open ? journal.records() - 1 : journal.records();
        if (ended < 1) {
            return REFUSED;
        }
        return journal.dropOldestRecord(blankCoins);
    }

    public boolean has() {
        return coinInHand() != null;
    }

    public long look(int what) {
        Coin coin = coinInHand();
        if (coin == null) {
            return NONE;
        }
        switch (what) {
            case 0:
                return coin.value;
            case 1:
                return coin.height;
            case 2:
                return coin.first ? 1 : 0;
            case 3:
                return coin.script.length();
            default:
                return NONE;
        }
    }

    public int byteOf(int i) {
        Coin coin = coinInHand();
        return coin == null ? NONE : coin.script.byteAt(i);
    }

    public int count(int what) {
        switch (what) {
            case 0:
                return height;
            case 1:
                return unspentCoins.size();
            case 2:
                return journal.spent();
            case 3:
                return journal.records();
            case 4:
                return open ? 1 : 0;
            default:
                return NONE;
        }
    }

    public long total() {
        return unspentCoins.sum();
    }

    private static int unspentLimit(int asked) {
        return asked >= FEWEST_UNSPENT && asked <= MOST_UNSPENT ? asked : USUAL_UNSPENT;
    }

    private Coin coinInHand() {
        return unspentCoins.find(keyInHand);
    }

    private Coin blankCoin() {
        Coin used = blankCoins.takeLast();
        return used == null ? new Coin() : used;
    }

    private void undoLatest() {
        boolean wasSpent = journal.latestIsSpending();
        Coin coin = journal.takeLatest();
        if (coin == null) {
            return;
        }
        if (wasSpent) {
            unspentCoins.add(coin);
        } else {
            unspentCoins.remove(coin.key);
            blankCoins.add(coin);
        }
    }

    /** A name of four numbers, and an index. */
    private static final class Key {
        private long a;
        private long b;
        private long c;
        private long d;
        private int index;

        void tell(long newA, long newB, long newC, long newD, int newIndex) {
            a = newA;
            b = newB;
            c = newC;
            d = newD;
            index = newIndex;
        }

        void copy(Key other) {
            tell(other.a, other.b, other.c, other.d, other.index);
        }

        boolean same(Key other) {
            return a == other.a && b == other.b && c == other.c && d == other.d
                    && index == other.index;
        }
    }

    /** A row of bytes that is used again for one script after the other. */
    private static final class Script {
        private final byte[] bytes = new byte[MOST_SCRIPT_BYTES];
        private int length;

        int length() {
            return length;
        }

        int room() {
            return bytes.length - length;
        }

        void clear() {
            length = 0;
        }

        void append(byte added) {
            if (length >= 0 && length < bytes.length) {
                bytes[length] = added;
                length++;
            }
        }

        void copy(Script other) {
            clear();
            for (int i = 0; i < other.length && i < other.bytes.length; i++) {
                append(other.bytes[i]);
            }
        }

        int byteAt(int place) {
            if (place < 0 || place >= length || place >= bytes.length) {
                return NONE;
            }
            return bytes[place] & 0xFF;
        }
    }

    /** A coin, unspent or spent: which of them, the place that holds it tells. */
    private static final class Coin {
        private final Key key = new Key();
        private final Script script = new Script();
        private long value;
        private int height;
        private boolean first;

        void tell(long newValue, int newHeight, boolean newFirst) {
            value = newValue;
            height = newHeight;
            first = newFirst;
        }
    }

    /** Coins in no order that counts, up to a number. */
    private static final class Pile {
        private final Coin[] coins;
        private int size;

        Pile(int most) {
            coins = new Coin[Math.max(most, 0)];
        }

        int size() {
            return size;
        }

        boolean isFull() {
            return size >= coins.length;
        }

        void add(Coin coin) {
            if (size >= 0 && size < coins.length) {
                coins[size] = coin;
                size++;
            }
        }

        Coin find(Key sought) {
            int place = placeOf(sought);
            return holds(place) ? coins[place] : null;
        }

        void remove(Key sought) {
            int place = placeOf(sought);
            if (!holds(place)) {
                return;
            }
            Coin last = takeLast();
            // The last coin fills the gap, unless it was the one to remove.
            if (holds(place)) {
                coins[place] = last;
            }
        }

        Coin takeLast() {
            if (!holds(size - 1)) {
                return null;
            }
            size--;
            return coins[size];
        }

        long sum() {
            long sum = 0;
            for (int i = 0; i < size && i < coins.length; i++) {
                Coin coin = coins[i];
                if (coin != null) {
                    sum += coin.value;
                }
            }
            return sum;
        }

        private boolean holds(int place) {
            return place >= 0 && place < size && place < coins.length;
        }

        private int placeOf(Key sought) {
            for (int i = 0; i < size && i < coins.length; i++) {
                Coin coin = coins[i];
                if (coin != null && coin.key.same(sought)) {
                    return i;
                }
            }
            return NONE;
        }
    }

    /** The records, the oldest first: what was done in each, in order; it holds the spent coins. */
    private static final class Journal {
        private final Coin[] coins;
        private final boolean[] spendings;
        private final int[] lengths = new int[MOST_RECORDS];
        private int size;
        private int records;
        private int spent;

        Journal(int most) {
            coins = new Coin[Math.max(most, 0)];
            spendings = new boolean[Math.max(most, 0)];
        }

        int records() {
            return records;
        }

        int spent() {
            return spent;
        }

        boolean isFull() {
            return records >= lengths.length;
        }

        void addRecord() {
            if (records >= 0 && records < lengths.length) {
                lengths[records] = 0;
                records++;
            }
        }

        int latestLength() {
            return hasRecord(records - 1) ? lengths[records - 1] : 0;
        }

        void note(Coin coin, boolean spending) {
            if (!hasRecord(records - 1) || !hasRoomAt(size)) {
                return;
            }
            coins[size] = coin;
            spendings[size] = spending;
            size++;
            lengths[records - 1]++;
            if (spending) {
                spent++;
            }
        }

        boolean latestIsSpending() {
            return hasRoomAt(size - 1) && spendings[size - 1];
        }

        /** The coin of the latest thing done, which is struck out; null if there is none. */
        Coin takeLatest() {
            if (!hasRoomAt(size - 1)) {
                return null;
            }
            if (latestIsSpending()) {
                spent--;
            }
            size--;
            return coins[size];
        }

        /** For a record of which all has been struck out. */
        void dropLatestRecord() {
            if (records > 0) {
                records--;
            }
        }

        /** Hands the coins that the oldest record spent to the pile, and tells how many. */
        int dropOldestRecord(Pile gone) {
            int dropped = hasRecord(0) ? lengths[0] : 0;
            int spentBefore = spent;
            for (int i = 0; i < dropped && hasRoomAt(i); i++) {
                if (spendings[i]) {
                    gone.add(coins[i]);
                    spent--;
                }
            }
            moveThingsDown(dropped);
            moveRecordsDown();
            return spentBefore - spent;
        }

        private void moveThingsDown(int by) {
            for (int from = by; from < size; from++) {
                int to = from - by;
                if (hasRoomAt(from) && hasRoomAt(to)) {
                    coins[to] = coins[from];
                    spendings[to] = spendings[from];
                }
            }
            size -= by;
        }

        private void moveRecordsDown() {
            for (int from = 1; from < records && from < lengths.length; from++) {
                lengths[from - 1] = lengths[from];
            }
            dropLatestRecord();
        }

        private boolean hasRecord(int place) {
            return place >= 0 && place < records && place < lengths.length;
        }

        private boolean hasRoomAt(int place) {
            return place >= 0 && place < coins.length && place < spendings.length;
        }
    }
}
