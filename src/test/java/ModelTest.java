import java.util.ArrayDeque;
import java.util.Arrays;
import java.util.Deque;
import java.util.HashMap;
import java.util.Map;
import java.util.Random;

/**
 * Runs of chosen calls, each answer beside that of a plain model. The model takes a block back by a
 * copy of the unspent coins from before it, so it shares no way of working with the class. No run
 * has more than 512 calls, since the document leaves free what later ones answer.
 */
public final class ModelTest {
    private static final int RUNS = 20_000;
    private static final int MOST_CALLS = 512;
    private static final int FEWEST_CHOSEN = 60;
    private static final int[] LIMITS = {2, 3, 4, 5, 8, 60, 200, 1, 201, -7};

    private static final class Block {
        final Map<String, long[]> values;
        final Map<String, byte[]> scripts;
        int made;
        int spent;

        Block(Model model) {
            values = new HashMap<>(model.values);
            scripts = new HashMap<>(model.scripts);
        }
    }

    private static final class Model {
        final int limit;
        Map<String, long[]> values = new HashMap<>();
        Map<String, byte[]> scripts = new HashMap<>();
        final Deque<Block> blocks = new ArrayDeque<>();
        boolean open;
        int height;
        String key = name(0, 0, 0, 0, 0);
        byte[] script = new byte[0];

        Model(int asked) {
            limit = asked < 2 || asked > 200 ? 60 : asked;
        }

        static String name(long a, long b, long c, long d, int index) {
            return a + "," + b + "," + c + "," + d + "," + index;
        }

        int spent() {
            int sum = 0;
            for (Block block : blocks) {
                sum += block.spent;
            }
            return sum;
        }

        boolean put(long v, int n) {
            if (n < 1 || n > 8 || script.length + n > 200) {
                return false;
            }
            int old = script.length;
            script = Arrays.copyOf(script, old + n);
            for (int i = 0; i < n; i++) {
                script[old + n - 1 - i] = (byte) v;
                v >>= 8;
            }
            return true;
        }

        boolean begin() {
            if (open || blocks.size() == 64) {
                return false;
            }
            open = true;
            blocks.addLast(new Block(this));
            return true;
        }

        int make(long value, boolean first) {
            if (!open) {
                return 1;
            }
            if (values.containsKey(key)) {
                return 2;
            }
            if (values.size() == limit) {
                return 3;
            }
            values.put(key, new long[] {value, height, first ? 1 : 0, script.length});
            scripts.put(key, script);
            blocks.getLast().made++;
            return 0;
        }

        int spend() {
            if (!open) {
                return 1;
            }
            if (!values.containsKey(key)) {
                return 2;
            }
            if (spent() == 2 * limit) {
                return 3;
            }
            values.remove(key);
            scripts.remove(key);
            blocks.getLast().spent++;
            return 0;
        }

        int end() {
            if (!open) {
                return -1;
            }
            open = false;
            height++;
            return blocks.getLast().made + blocks.getLast().spent;
        }

        int back() {
            if (blocks.isEmpty()) {
                return -1;
            }
            Block block = blocks.removeLast();
            values = block.values;
            scripts = block.scripts;
            height -= open ? 0 : 1;
            open = false;
            return block.made + block.spent;
        }

        int forget() {
            if (blocks.size() - (open ? 1 : 0) == 0) {
                return -1;
            }
            return blocks.removeFirst().spent;
        }

        long look(int what) {
            long[] coin = values.get(key);
            return coin == null || what < 0 || what > 3 ? -1 : coin[what];
        }

        int byteOf(int i) {
            byte[] bytes = scripts.get(key);
            return bytes == null || i < 0 || i >= bytes.length ? -1 : Byte.toUnsignedInt(bytes[i]);
        }

        int count(int what) {
            int[] all = {height, values.size(), spent(), blocks.size(), open ? 1 : 0};
            return what < 0 || what > 4 ? -1 : all[what];
        }

        long total() {
            long sum = 0;
            for (long[] coin : values.values()) {
                sum += coin[0];
            }
            return sum;
        }
    }

    /** The class and the model side by side; it counts the calls of the class. */
    private static final class Pair {
        final int run;
        final Random random;
        final Model m;
        final int keys;
        private final CoinDesk desk;
        private int calls;

        Pair(int run) {
            this.run = run;
            random = new Random(run);
            int asked = LIMITS[run % LIMITS.length];
            desk = new CoinDesk(asked);
            m = new Model(asked);
            keys = 1 + random.nextInt(run % 3 == 0 ? 3 * m.limit : m.limit + 2);
        }

        CoinDesk x() {
            calls++;
            if (calls == MOST_CALLS + 1) {
                wrong++;
                System.out.println("run " + run + " has more than " + MOST_CALLS + " calls");
            }
            return desk;
        }

        boolean hasCalls(int number) {
            return calls + number <= MOST_CALLS;
        }

        void due(String what, long got, long want) {
            if (got != want) {
                wrong++;
                if (wrong < 50) {
                    System.out.println("run " + run + ", call " + calls + ": " + what + " answered " + got
                            + ", due is " + want);
                }
            }
        }
    }

    private static int wrong = 0;
    private static int[] makeFaults = new int[4];
    private static int[] spendFaults = new int[4];
    private static int fullBegins = 0;
    private static int longBacks = 0;
    private static int longForgets = 0;
    private static int coinsAtLast = 0;
    private static int backsAtLast = 0;

    private static long bit(boolean b) {
        return b ? 1 : 0;
    }

    public static void main(String[] args) {
        for (int run = 0; run < RUNS; run++) {
            runOnce(new Pair(run));
        }
        reached("makes without a fault", makeFaults[0]);
        reached("makes of fault 1", makeFaults[1]);
        reached("makes of fault 2", makeFaults[2]);
        reached("makes of fault 3", makeFaults[3]);
        reached("spends without a fault", spendFaults[0]);
        reached("spends of fault 1", spendFaults[1]);
        reached("spends of fault 2", spendFaults[2]);
        reached("spends of fault 3", spendFaults[3]);
        reached("begins beside 64 records", fullBegins);
        reached("backs of many things", longBacks);
        reached("forgets of many coins", longForgets);
        reached("coins looked at last", coinsAtLast);
        reached("backs at last", backsAtLast);
        System.out.println(wrong == 0 ? "all answers are as due" : wrong + " answers are not as due");
        if (wrong != 0) {
            System.exit(1);
        }
    }

    /** Runs that never come to an edge would prove nothing of it. */
    private static void reached(String what, int times) {
        if (times < 20) {
            wrong++;
            System.out.println("too few " + what + ": " + times);
        }
    }

    private static void runOnce(Pair pair) {
        Random random = pair.random;
        // How often each kind of call comes differs from run to run, so that all edges are reached.
        int[] weights = {8 + random.nextInt(20), random.nextInt(3), random.nextInt(8), 1 + random.nextInt(8),
            5 + random.nextInt(30), 1 + random.nextInt(30), 1 + random.nextInt(8), random.nextInt(3), random.nextInt(3),
            1, 3, 2, 2, 1};
        if (pair.run % 7 == 0) {
            fillWithRecords(weights);
        }
        int sum = Arrays.stream(weights).sum();
        // What is left of the run's calls looks at what came of the chosen ones.
        int chosen = FEWEST_CHOSEN + random.nextInt(MOST_CALLS - FEWEST_CHOSEN);
        for (int call = 0; call < chosen; call++) {
            int pick = random.nextInt(sum);
            int kind = 0;
            while (pick >= weights[kind]) {
                pick -= weights[kind];
                kind++;
            }
            callBoth(kind, pair);
        }
        lookAndTakeBack(pair);
    }

    private static void fillWithRecords(int[] weights) {
        weights[3] = 80;
        weights[6] = 80;
        weights[7] = 0;
        weights[8] = 1;
    }

    private static void callBoth(int kind, Pair pair) {
        Random random = pair.random;
        Model m = pair.m;
        switch (kind) {
            case 0: tellKey(random.nextInt(pair.keys), pair); break;
            case 1: pair.x().empty(); m.script = new byte[0]; break;
            case 2: {
                long v = random.nextLong();
                int n = random.nextInt(11) - 1;
                pair.due("put", bit(pair.x().put(v, n)), bit(m.put(v, n)));
                break;
            }
            case 3: {
                boolean want = m.begin();
                fullBegins += !want && !m.open ? 1 : 0;
                pair.due("begin", bit(pair.x().begin()), bit(want));
                break;
            }
            case 4: {
                long value = random.nextBoolean() ? random.nextLong() : random.nextInt(100);
                boolean first = random.nextBoolean();
                int want = m.make(value, first);
                makeFaults[want]++;
                pair.due("make", pair.x().make(value, first), want);
                break;
            }
            case 5: {
                int want = m.spend();
                spendFaults[want]++;
                pair.due("spend", pair.x().spend(), want);
                break;
            }
            case 6: pair.due("end", pair.x().end(), m.end()); break;
            case 7: {
                int want = m.back();
                longBacks += want > 5 ? 1 : 0;
                pair.due("back", pair.x().back(), want);
                break;
            }
            case 8: {
                int want = m.forget();
                longForgets += want > 5 ? 1 : 0;
                pair.due("forget", pair.x().forget(), want);
                break;
            }
            case 9: pair.due("has", bit(pair.x().has()), bit(m.values.containsKey(m.key))); break;
            case 10: {
                int what = random.nextInt(6) - 1;
                pair.due("look " + what, pair.x().look(what), m.look(what));
                break;
            }
            case 11: {
                int i = random.nextInt(1 + random.nextInt(203)) - 1;
                pair.due("byteOf " + i, pair.x().byteOf(i), m.byteOf(i));
                break;
            }
            case 12: {
                int what = random.nextInt(7) - 1;
                pair.due("count " + what, pair.x().count(what), m.count(what));
                break;
            }
            default: pair.due("total", pair.x().total(), m.total()); break;
        }
    }

    /** Keys that differ in one number only, by small and by far bits. */
    private static void tellKey(int number, Pair pair) {
        long[] parts = {0, 0, 0, 0, 0};
        parts[number % 5] = number % 2 == 0 ? number : (long) number << 23;
        pair.x().key(parts[0], parts[1], parts[2], parts[3], (int) parts[4]);
        pair.m.key = Model.name(parts[0], parts[1], parts[2], parts[3], (int) parts[4]);
    }

    /** All is taken back, a block at a time, and looked at on the way, as far as the calls reach. */
    private static void lookAndTakeBack(Pair pair) {
        // In every other run all keys are looked at; in the others few, so that more is taken back.
        int looked = pair.run % 2 == 0 ? pair.keys : Math.min(3, pair.keys);
        while (pair.hasCalls(7)) {
            for (int what = 0; what <= 4; what++) {
                pair.due("at last, count " + what, pair.x().count(what), pair.m.count(what));
            }
            pair.due("at last, total", pair.x().total(), pair.m.total());
            int from = pair.random.nextInt(pair.keys);
            for (int i = 0; i < looked && pair.hasCalls(12); i++) {
                lookAtOne((from + i) % pair.keys, pair);
            }
            if (!pair.hasCalls(1)) {
                return;
            }
            int want = pair.m.back();
            pair.due("at last, back", pair.x().back(), want);
            if (want < 0) {
                return;
            }
            backsAtLast++;
        }
    }

    private static void lookAtOne(int number, Pair pair) {
        tellKey(number, pair);
        boolean has = pair.m.values.containsKey(pair.m.key);
        pair.due("at last, has", bit(pair.x().has()), bit(has));
        if (!has) {
            return;
        }
        coinsAtLast++;
        for (int what = 0; what <= 3; what++) {
            pair.due("at last, look " + what, pair.x().look(what), pair.m.look(what));
        }
        int length = (int) pair.m.look(3);
        int[] places = {0, length / 3, length / 2, length - 1, length};
        for (int i : places) {
            pair.due("at last, byteOf " + i, pair.x().byteOf(i), pair.m.byteOf(i));
        }
    }
}
