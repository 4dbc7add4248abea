/** Every promise by hand: ordinary inputs, the edges that the document names, wrong inputs. */
public final class PromiseTest {
    private static final int MOST_RECORDS = 64;
    private static int wrong = 0;
    private static int promise = 0;

    private static void due(String what, long got, long want) {
        if (got != want) {
            wrong++;
            System.out.println("promise " + promise + ": " + what + " answered " + got + ", due is " + want);
        }
    }

    private static void due(String what, boolean got, boolean want) {
        due(what, got ? 1 : 0, want ? 1 : 0);
    }

    private static void counts(String when, CoinDesk x, int height, int unspent, int spent, int records, int open) {
        due(when + ": the height", x.count(0), height);
        due(when + ": unspent", x.count(1), unspent);
        due(when + ": spent", x.count(2), spent);
        due(when + ": records", x.count(3), records);
        due(when + ": open", x.count(4), open);
    }

    private static void index(CoinDesk x, int index) {
        x.key(0, 0, 0, 0, index);
    }

    private static int make(CoinDesk x, int index, long value) {
        index(x, index);
        return x.make(value, false);
    }

    private static int spend(CoinDesk x, int index) {
        index(x, index);
        return x.spend();
    }

    private static CoinDesk opened(int unspent) {
        CoinDesk x = new CoinDesk(unspent);
        x.begin();
        return x;
    }

    private static void script(CoinDesk x, int bytes) {
        x.empty();
        for (int i = 0; i < bytes; i++) {
            x.put(i, 1);
        }
    }

    public static void main(String[] args) {
        newObject();
        limits();
        keys();
        emptying();
        putting();
        beginning();
        making();
        makingCopies();
        spending();
        ending();
        takingBackOpen();
        takingBackEnded();
        takingBackInOrder();
        forgetting();
        forgettingBesideOpen();
        having();
        looking();
        bytesOf();
        counting();
        totals();
        System.out.println(wrong == 0 ? "all answers are as due" : wrong + " answers are not as due");
        if (wrong != 0) {
            System.exit(1);
        }
    }

    private static void newObject() {
        promise = 1;
        CoinDesk x = new CoinDesk(5);
        counts("new", x, 0, 0, 0, 0, 0);
        due("total", x.total(), 0);
        due("has", x.has(), false);
        due("back", x.back(), -1);
        due("forget", x.forget(), -1);
        due("end", x.end(), -1);
        x.begin();
        due("make of the first hand", x.make(1, false), 0);
        due("bytes of the first hand", x.look(3), 0);
        x.key(0, 0, 0, 0, 0);
        due("the first key in hand is all 0", x.has(), true);
    }

    private static void limits() {
        promise = 1;
        int[][] askedAndDue = {
            {2, 2}, {3, 3}, {60, 60}, {61, 61}, {199, 199}, {200, 200}, {1, 60}, {0, 60}, {-1, 60}, {201, 60},
            {Integer.MAX_VALUE, 60}, {Integer.MIN_VALUE, 60}};
        for (int[] row : askedAndDue) {
            CoinDesk x = opened(row[0]);
            for (int i = 0; i < row[1]; i++) {
                due("make " + i + " of " + row[0], make(x, i, 1), 0);
            }
            due("one make more than " + row[0], make(x, -1, 1), 3);
            due("unspent", x.count(1), row[1]);
        }
        for (int u : new int[] {2, 3, 60, 1}) {
            int most = u == 1 ? 120 : 2 * u;
            CoinDesk x = opened(u);
            for (int i = 0; i < most; i++) {
                due("make", make(x, 7, i), 0);
                due("spend " + i + " of " + u, x.spend(), 0);
            }
            due("make", make(x, 7, 1), 0);
            due("one spend more than 2 * " + u, x.spend(), 3);
            due("refused: still there", x.has(), true);
            counts("spent to the limit", x, 0, 1, most, 1, 1);
        }
    }

    private static void keys() {
        promise = 2;
        CoinDesk x = opened(10);
        x.key(1, 2, 3, 4, 5);
        due("make", x.make(9, false), 0);
        long[][] others = {
            {0, 2, 3, 4, 5}, {1, 0, 3, 4, 5}, {1, 2, 0, 4, 5}, {1, 2, 3, 0, 5}, {1, 2, 3, 4, 0},
            {1L << 32 | 1, 2, 3, 4, 5}, {1, 2L | 1L << 63, 3, 4, 5}, {2, 1, 3, 4, 5}, {1, 2, 3, 4, -5}};
        for (int i = 0; i < others.length; i++) {
            long[] k = others[i];
            x.key(k[0], k[1], k[2], k[3], (int) k[4]);
            due("another key " + i, x.has(), false);
            due("make of another key " + i, x.make(100 + i, false), 0);
        }
        for (int i = 0; i < others.length; i++) {
            long[] k = others[i];
            x.key(k[0], k[1], k[2], k[3], (int) k[4]);
            due("value of another key " + i, x.look(0), 100 + i);
        }
        x.key(1, 2, 3, 4, 5);
        due("value of the key", x.look(0), 9);
        x.key(Long.MIN_VALUE, Long.MAX_VALUE, -1, 0, Integer.MIN_VALUE);
        due("far key", x.has(), false);
    }

    private static void emptying() {
        promise = 3;
        CoinDesk x = opened(4);
        x.put(0x0102, 2);
        x.empty();
        make(x, 1, 1);
        due("bytes after empty", x.look(3), 0);
        due("byte 0 after empty", x.byteOf(0), -1);
        x.put(0x03, 1);
        make(x, 2, 1);
        due("bytes after empty and put", x.look(3), 1);
        due("byte 0", x.byteOf(0), 3);
        due("byte 1", x.byteOf(1), -1);
        script(x, 200);
        due("put on a full script", x.put(1, 1), false);
        x.empty();
        x.empty();
        due("put after empty", x.put(1, 8), true);
        index(x, 2);
        due("the made coin keeps its script", x.byteOf(0), 3);
    }

    private static void putting() {
        promise = 4;
        for (int n = 1; n <= 8; n++) {
            CoinDesk x = opened(4);
            due("put " + n, x.put(0x8192A3B4C5D6E7F8L, n), true);
            x.make(0, false);
            due("bytes of put " + n, x.look(3), n);
            for (int i = 0; i < n; i++) {
                due("byte " + i + " of put " + n, x.byteOf(i), 0xF8 - 0x11 * (n - 1 - i));
            }
            due("behind the last byte", x.byteOf(n), -1);
        }
        CoinDesk x = opened(4);
        for (int n : new int[] {0, -1, 9, 200, Integer.MAX_VALUE, Integer.MIN_VALUE}) {
            due("put of " + n, x.put(-1, n), false);
        }
        make(x, 1, 0);
        due("refused puts leave no bytes", x.look(3), 0);
        for (int i = 0; i < 24; i++) {
            due("put of 8", x.put(i, 8), true);
        }
        due("put to 199", x.put(0x11223344556677L, 7), true);
        due("put to 201", x.put(0xAABB, 2), false);
        due("put to 207", x.put(-1, 8), false);
        make(x, 2, 0);
        due("199 bytes", x.look(3), 199);
        due("put to 200", x.put(0xCC, 1), true);
        due("put beyond 200", x.put(0xDD, 1), false);
        make(x, 3, 0);
        due("200 bytes", x.look(3), 200);
        due("byte 191", x.byteOf(191), 23);
        due("byte 192", x.byteOf(192), 0x11);
        due("byte 198", x.byteOf(198), 0x77);
        due("byte 199", x.byteOf(199), 0xCC);
        due("byte 200", x.byteOf(200), -1);
    }

    private static void beginning() {
        promise = 5;
        CoinDesk x = new CoinDesk(4);
        due("begin", x.begin(), true);
        due("begin of an open one", x.begin(), false);
        counts("one is open", x, 0, 0, 0, 1, 1);
        x.end();
        for (int i = 1; i < MOST_RECORDS; i++) {
            due("begin " + i, x.begin(), true);
            due("end " + i, x.end(), 0);
        }
        due("begin beside 64 records", x.begin(), false);
        counts("64 records", x, 64, 0, 0, 64, 0);
        due("make in none", x.make(1, false), 1);
        due("forget", x.forget(), 0);
        due("begin beside 63 records", x.begin(), true);
        counts("64 records, one open", x, 64, 0, 0, 64, 1);
        due("back", x.back(), 0);
        due("back", x.back(), 0);
        counts("after back", x, 63, 0, 0, 62, 0);
        due("begin", x.begin(), true);
    }

    private static void making() {
        promise = 6;
        CoinDesk x = new CoinDesk(2);
        due("make without a block", x.make(5, true), 1);
        due("nothing made", x.has(), false);
        x.begin();
        due("make", make(x, 1, 5), 0);
        due("make again", x.make(6, true), 2);
        due("value unchanged", x.look(0), 5);
        due("first unchanged", x.look(2), 0);
        due("make", make(x, 2, 6), 0);
        due("full and there already: the first fault", x.make(6, true), 2);
        due("full", make(x, 3, 7), 3);
        due("refused makes leave no coin", x.has(), false);
        due("end: refused makes are not things done", x.end(), 2);
        due("no block, and full, and there already", make(x, 1, 1), 1);
        x.begin();
        due("spend", spend(x, 1), 0);
        due("make of a spent key", x.make(8, true), 0);
        due("value", x.look(0), 8);
        due("height", x.look(1), 1);
        due("first", x.look(2), 1);
        counts("spent and made again", x, 1, 2, 1, 2, 1);
    }

    private static void makingCopies() {
        promise = 6;
        CoinDesk x = opened(4);
        x.put(0x0A0B, 2);
        make(x, 1, 5);
        x.put(0x0C, 1);
        due("a coin's bytes don't follow the hand", x.look(3), 2);
        make(x, 2, 6);
        due("the script stays in hand", x.look(3), 3);
        due("its last byte", x.byteOf(2), 0x0C);
        x.empty();
        x.put(-1, 8);
        index(x, 1);
        due("byte 0 of the first coin", x.byteOf(0), 0x0A);
        due("byte 1 of the first coin", x.byteOf(1), 0x0B);
        // The coin that is gone leaves nothing to the one made after it.
        x.end();
        x.begin();
        script(x, 200);
        make(x, 3, 7);
        x.back();
        x.begin();
        x.empty();
        make(x, 4, 8);
        due("bytes of a coin after one that is gone", x.look(3), 0);
        due("no byte", x.byteOf(0), -1);
    }

    private static void spending() {
        promise = 7;
        CoinDesk x = new CoinDesk(2);
        due("spend without a block", x.spend(), 1);
        x.begin();
        due("spend of none", x.spend(), 2);
        make(x, 1, 5);
        due("spend of one that the block made", x.spend(), 0);
        due("it is not there", x.has(), false);
        due("spend again", x.spend(), 2);
        counts("spent", x, 0, 0, 1, 1, 1);
        make(x, 2, 6);
        make(x, 3, 7);
        due("spend of another key", spend(x, 1), 2);
        due("end: refused spends are not things done", x.end(), 4);
        due("spend without a block, the coin is there", spend(x, 2), 1);
        due("it is there", x.has(), true);
        x.begin();
        due("spend of one that an earlier block made", x.spend(), 0);
        due("the other is there", spendSeen(x, 3), 7);
        due("spend", x.spend(), 0);
        make(x, 4, 8);
        due("spend", x.spend(), 0);
        make(x, 5, 9);
        due("no room", x.spend(), 3);
        due("no coin comes before no room", spend(x, 6), 2);
        counts("no room", x, 1, 1, 4, 2, 1);
        due("forget", x.forget(), 1);
        due("room again", spend(x, 5), 0);
    }

    private static long spendSeen(CoinDesk x, int index) {
        index(x, index);
        return x.look(0);
    }

    private static void ending() {
        promise = 8;
        CoinDesk x = new CoinDesk(4);
        due("end of none", x.end(), -1);
        due("height", x.count(0), 0);
        x.begin();
        due("end of an empty block", x.end(), 0);
        due("end again", x.end(), -1);
        counts("ended", x, 1, 0, 0, 1, 0);
        x.begin();
        make(x, 1, 1);
        make(x, 2, 1);
        x.spend();
        make(x, 1, 1);
        due("end", x.end(), 3);
        counts("ended", x, 2, 1, 1, 2, 0);
        x.begin();
        due("only what this block did counts", x.end(), 0);
    }

    private static void takingBackOpen() {
        promise = 9;
        CoinDesk x = new CoinDesk(4);
        due("back of none", x.back(), -1);
        x.begin();
        due("back of an empty open one", x.back(), 0);
        counts("back", x, 0, 0, 0, 0, 0);
        x.begin();
        make(x, 1, 5);
        x.end();
        x.begin();
        spend(x, 1);
        make(x, 1, 6);
        x.spend();
        make(x, 2, 7);
        make(x, 1, 8);
        due("back of the open one", x.back(), 5);
        counts("the height stays", x, 1, 1, 0, 1, 0);
        index(x, 1);
        due("value", x.look(0), 5);
        index(x, 2);
        due("made there: gone", x.has(), false);
        due("end: none is open", x.end(), -1);
        due("back of the ended one", x.back(), 1);
        counts("nothing is left", x, 0, 0, 0, 0, 0);
        due("back of none", x.back(), -1);
        due("height after a refused back", x.count(0), 0);
    }

    private static void takingBackEnded() {
        promise = 9;
        CoinDesk x = opened(4);
        script(x, 200);
        x.key(1, 2, 3, 4, 5);
        x.make(Long.MIN_VALUE, true);
        x.end();
        x.begin();
        x.end();
        x.begin();
        x.spend();
        x.empty();
        x.put(1, 1);
        x.make(3, false);
        x.end();
        due("back", x.back(), 2);
        due("value", x.look(0), Long.MIN_VALUE);
        due("height of the coin", x.look(1), 0);
        due("first", x.look(2), 1);
        due("bytes", x.look(3), 200);
        due("byte 0", x.byteOf(0), 0);
        due("byte 199", x.byteOf(199), 199);
        counts("back", x, 2, 1, 0, 2, 0);
        x.begin();
        x.spend();
        due("the hand is not taken back", x.make(4, false), 0);
        due("height of a coin made after back", x.look(1), 2);
        due("bytes in hand", x.look(3), 1);
        x.end();
        due("forget", x.forget(), 0);
        due("back", x.back(), 2);
        due("back", x.back(), 0);
        due("back of a forgotten one", x.back(), -1);
        counts("only the forgotten one is left", x, 1, 1, 0, 0, 0);
    }

    private static void takingBackInOrder() {
        promise = 9;
        CoinDesk x = new CoinDesk(2);
        // The block is as full as can be: each step must find the room that the one before left.
        x.begin();
        make(x, 1, 1);
        make(x, 2, 2);
        x.end();
        x.begin();
        spend(x, 1);
        make(x, 3, 4);
        spend(x, 2);
        make(x, 1, 8);
        spend(x, 1);
        make(x, 1, 16);
        spend(x, 1);
        make(x, 2, 32);
        due("end", x.end(), 8);
        due("total", x.total(), 36);
        due("back", x.back(), 8);
        due("total", x.total(), 3);
        index(x, 1);
        due("coin 1", x.look(0), 1);
        index(x, 2);
        due("coin 2", x.look(0), 2);
        index(x, 3);
        due("coin 3", x.has(), false);
        due("back", x.back(), 2);
        due("total", x.total(), 0);
    }

    private static void forgetting() {
        promise = 10;
        CoinDesk x = new CoinDesk(3);
        due("forget of none", x.forget(), -1);
        x.begin();
        make(x, 1, 1);
        make(x, 2, 2);
        x.spend();
        x.end();
        x.begin();
        spend(x, 1);
        make(x, 2, 4);
        x.spend();
        x.end();
        x.begin();
        make(x, 3, 8);
        x.end();
        counts("three blocks", x, 3, 1, 3, 3, 0);
        due("forget the oldest", x.forget(), 1);
        counts("one forgotten", x, 3, 1, 2, 2, 0);
        due("back of the latest", x.back(), 1);
        due("back of the one before", x.back(), 3);
        counts("both back", x, 1, 1, 0, 0, 0);
        index(x, 1);
        due("a coin of the forgotten one", x.look(0), 1);
        due("back of the forgotten one", x.back(), -1);
        due("forget of none", x.forget(), -1);
        x.begin();
        spend(x, 1);
        x.end();
        due("forget", x.forget(), 1);
        counts("all forgotten", x, 2, 0, 0, 0, 0);
        due("forget", x.forget(), -1);
    }

    private static void forgettingBesideOpen() {
        promise = 10;
        CoinDesk x = opened(3);
        due("forget of an open one", x.forget(), -1);
        make(x, 1, 1);
        make(x, 2, 2);
        x.spend();
        due("forget of an open one", x.forget(), -1);
        counts("nothing changed", x, 0, 1, 1, 1, 1);
        x.end();
        x.begin();
        spend(x, 1);
        make(x, 2, 4);
        due("forget beside an open one", x.forget(), 1);
        counts("forgotten", x, 1, 1, 1, 1, 1);
        due("forget again", x.forget(), -1);
        make(x, 3, 8);
        due("end", x.end(), 3);
        due("back", x.back(), 3);
        index(x, 1);
        due("value", x.look(0), 1);
        due("total", x.total(), 1);
        counts("back", x, 1, 1, 0, 0, 0);
    }

    private static void having() {
        promise = 11;
        CoinDesk x = opened(3);
        due("none", x.has(), false);
        make(x, 1, 0);
        due("made", x.has(), true);
        due("still", x.has(), true);
        x.end();
        due("no block is open", x.has(), true);
        index(x, 2);
        due("another", x.has(), false);
        x.begin();
        spend(x, 1);
        due("spent", x.has(), false);
        x.back();
        due("unspent again", x.has(), true);
        x.back();
        due("gone", x.has(), false);
    }

    private static void looking() {
        promise = 12;
        CoinDesk x = new CoinDesk(3);
        for (int i = 0; i < 3; i++) {
            x.begin();
            x.end();
        }
        x.begin();
        x.put(0, 5);
        for (int what = -1; what <= 4; what++) {
            due("look of none " + what, x.look(what), -1);
        }
        x.make(Long.MAX_VALUE, true);
        x.end();
        due("value", x.look(0), Long.MAX_VALUE);
        due("height of the making block", x.look(1), 3);
        due("first", x.look(2), 1);
        due("bytes", x.look(3), 5);
        for (int what : new int[] {-1, 4, 5, Integer.MIN_VALUE, Integer.MAX_VALUE}) {
            due("look " + what, x.look(what), -1);
        }
        x.begin();
        make(x, 9, 0);
        due("value 0", x.look(0), 0);
        due("not first", x.look(2), 0);
        due("height", x.look(1), 4);
        x.spend();
        due("look of a spent one", x.look(1), -1);
    }

    private static void bytesOf() {
        promise = 13;
        CoinDesk x = opened(3);
        due("of none", x.byteOf(0), -1);
        x.put(0x007F80FFL, 4);
        due("of the hand, not of a coin", x.byteOf(0), -1);
        x.make(1, false);
        int[] bytes = {0, 0x7F, 0x80, 0xFF};
        for (int i = 0; i < bytes.length; i++) {
            due("byte " + i, x.byteOf(i), bytes[i]);
        }
        for (int i : new int[] {-1, 4, 199, 200, Integer.MAX_VALUE, Integer.MIN_VALUE}) {
            due("byte " + i, x.byteOf(i), -1);
        }
        x.spend();
        due("of a spent one", x.byteOf(0), -1);
    }

    private static void counting() {
        promise = 14;
        CoinDesk x = opened(3);
        make(x, 1, 1);
        make(x, 2, 1);
        make(x, 3, 1);
        x.spend();
        x.end();
        x.begin();
        counts("two blocks", x, 1, 2, 1, 2, 1);
        for (int what : new int[] {-1, 5, 6, Integer.MIN_VALUE, Integer.MAX_VALUE}) {
            due("count " + what, x.count(what), -1);
        }
        counts("counting changes nothing", x, 1, 2, 1, 2, 1);
    }

    private static void totals() {
        promise = 15;
        CoinDesk x = opened(5);
        due("of none", x.total(), 0);
        make(x, 1, Long.MAX_VALUE);
        make(x, 2, 1);
        due("it wraps", x.total(), Long.MIN_VALUE);
        make(x, 3, -1);
        due("and back", x.total(), Long.MAX_VALUE);
        spend(x, 1);
        due("a spent one does not count", x.total(), 0);
        make(x, 4, -9);
        x.end();
        due("no block is open", x.total(), -9);
        x.back();
        due("back", x.total(), 0);
    }
}
