import java.util.function.Consumer;
import java.util.function.ToLongFunction;

/**
 * Each sentence of the document that names a boundary case (too small, too large, empty, full, a
 * wrap-around, a refused call) has a test of its own here, under the sentence's own words.
 */
public final class BoundaryTest {
    private static final int MOST_CALLS = 512;
    private static final int MOST_RECORDS = 64;
    private static final int MOST_BYTES = 200;
    private static final int NOTHING_TOLD = 77;
    private static final int[] FAR_INTS = {Integer.MIN_VALUE, Integer.MIN_VALUE + 1, -256, -1, Integer.MAX_VALUE - 1,
        Integer.MAX_VALUE};

    private static int wrong = 0;
    private static int cases = 0;
    private static String sentence = "";

    /** A desk that counts its calls: the document promises nothing after the 512th. */
    private static final class Desk {
        private final CoinDesk desk;
        private int calls;

        Desk(int unspent) {
            desk = new CoinDesk(unspent);
        }

        CoinDesk x() {
            calls++;
            if (calls == MOST_CALLS + 1) {
                fail("the test calls more than " + MOST_CALLS + " times");
            }
            return desk;
        }

        void index(int index) {
            x().key(0, 0, 0, 0, index);
        }

        int make(int index, long value) {
            index(index);
            return x().make(value, false);
        }

        int spend(int index) {
            index(index);
            return x().spend();
        }

        long value(int index) {
            index(index);
            return x().look(0);
        }

        void blocks(int number) {
            for (int i = 0; i < number; i++) {
                x().begin();
                x().end();
            }
        }

        /** Makes and spends the coin of the key in hand, over and over. */
        void waste(int number) {
            for (int i = 0; i < number; i++) {
                x().make(i, false);
                x().spend();
            }
        }

        /** The script in hand has so many bytes: 1, 2, 3 and so on. */
        void script(int bytes) {
            x().empty();
            for (int at = 0; at < bytes; at += 8) {
                int n = Math.min(8, bytes - at);
                long v = 0;
                for (int i = 1; i <= n; i++) {
                    v = v << 8 | (at + i & 0xFF);
                }
                x().put(v, n);
            }
        }
    }

    private static void fail(String what) {
        wrong++;
        System.out.println(sentence + "\n    " + what);
    }

    private static void due(String what, long got, long want) {
        if (got != want) {
            fail(what + " answered " + got + ", due is " + want);
        }
    }

    private static void due(String what, boolean got, boolean want) {
        if (got != want) {
            fail(what + " answered " + got + ", due is " + want);
        }
    }

    private static void counts(String when, Desk d, int height, int unspent, int spent, int records, int open) {
        int[] want = {height, unspent, spent, records, open};
        for (int what = 0; what < want.length; what++) {
            due(when + ": count(" + what + ")", d.x().count(what), want[what]);
        }
    }

    private static void says(String where, String words, Runnable test) {
        cases++;
        sentence = where + ": \"" + words + "\"";
        test.run();
    }

    public static void main(String[] args) {
        terms();
        limitsAndFaults();
        refusals();
        promisesOfTheHand();
        promisesOfBlocks();
        promisesOfAnswers();
        System.out.println(wrong == 0 ? "all " + cases + " boundary cases hold" : wrong + " answers are not as due");
        if (wrong != 0) {
            System.exit(1);
        }
    }

    // ---- Which sentence is tested where ----

    private static void terms() {
        says("What it is", "An object is used for at most 512 calls after it has been made",
                BoundaryTest::allCallsUpToTheLast);
        says("Terms", "a NAME (four numbers of 64 bits) and an INDEX (an int)", BoundaryTest::farKeys);
        says("Terms", "a SCRIPT of 0 .. 200 bytes", BoundaryTest::emptyAndFullScripts);
        says("Terms", "of one key there is at most one unspent coin (and any number of spent ones)",
                BoundaryTest::manySpentOfOneKey);
        says("Terms", "at first all numbers of the key are 0, and the script has no bytes", BoundaryTest::firstHand);
        says("Terms", "BLOCKS: one can be OPEN", BoundaryTest::oneOpenBlock);
        says("Terms", "The HEIGHT is how many blocks were ended and not taken back", BoundaryTest::heightOfEnded);
        says("Terms, beyond the 64 records", "The HEIGHT is how many blocks were ended and not taken back",
                BoundaryTest::heightBeyondTheRecords);
        says("Terms", "In an open block coins are made and spent (also such as it made)",
                BoundaryTest::spendingWhatTheBlockMade);
        says("Terms", "When it ENDS its record is kept, as the latest one", BoundaryTest::recordsOfEmptyBlocks);
        says("Terms", "all that it did is undone, from the last thing on", BoundaryTest::takingBackOnAFullDesk);
        says("Terms", "a coin that it spent is unspent again, one that it made is gone; its record too",
                BoundaryTest::takingBackWhatWasMadeAndSpent);
        says("Terms", "The OLDEST record can be FORGOTTEN: it can't be taken back then",
                BoundaryTest::forgottenIsNotTakenBack);
        says("Terms, no others", "the coins that it spent are gone", BoundaryTest::onlySpentCoinsGo);
        says("Terms", "All memory is the class's own", BoundaryTest::twoDesks);
    }

    private static void limitsAndFaults() {
        says("Terms", "LIMITS: U unspent coins", BoundaryTest::limitOfUnspent);
        says("Terms, room comes again", "LIMITS: U unspent coins", BoundaryTest::roomForUnspentAgain);
        says("Terms, LIMITS", "2 * U spent ones that are kept", BoundaryTest::limitOfSpent);
        says("Terms, LIMITS, in all records", "2 * U spent ones that are kept",
                BoundaryTest::limitOfSpentInAllRecords);
        says("Terms, LIMITS, room comes again", "2 * U spent ones that are kept", BoundaryTest::roomForSpentAgain);
        says("Terms, LIMITS", "64 records (that of an open block is one of them)", BoundaryTest::limitOfRecords);
        says("Terms, making", "FAULTS, the first of these that is so", BoundaryTest::firstFaultOfMaking);
        says("Terms, spending", "FAULTS, the first of these that is so", BoundaryTest::firstFaultOfSpending);
        says("Terms", "Without a fault: 0", BoundaryTest::noFault);
    }

    private static void refusals() {
        refused("put: n is too small", BoundaryTest::busy, 0, x -> bit(x.put(-1, 0)));
        refused("put: n is far too small", BoundaryTest::busy, 0, x -> bit(x.put(-1, Integer.MIN_VALUE)));
        refused("put: n is too large", BoundaryTest::busy, 0, x -> bit(x.put(-1, 9)));
        refused("put: n is far too large", BoundaryTest::busy, 0, x -> bit(x.put(-1, Integer.MAX_VALUE)));
        refused("put: a full script", BoundaryTest::busyWithFullScript, 0, x -> bit(x.put(-1, 1)));
        refused("put: an almost full script", BoundaryTest::busyWithAlmostFullScript, 0, x -> bit(x.put(-1, 2)));
        refused("begin: one is open", BoundaryTest::busyAndOpen, 0, x -> bit(x.begin()));
        refused("begin: 64 records", BoundaryTest::fullOfRecords, 0, x -> bit(x.begin()));
        refused("begin: one is open and 64 records", BoundaryTest::fullOfRecordsAndOpen, 0, x -> bit(x.begin()));
        refused("make: no block", BoundaryTest::busy, 1, x -> x.make(-1, true));
        refused("make: such a coin", BoundaryTest::busyAndOpen, 2, x -> x.make(-1, true));
        refused("make: no room", BoundaryTest::fullOfUnspent, 3, x -> x.make(-1, true));
        refused("spend: no block", BoundaryTest::busy, 1, CoinDesk::spend);
        refused("spend: no such coin", BoundaryTest::fullOfUnspent, 2, CoinDesk::spend);
        refused("spend: no room", BoundaryTest::fullOfSpent, 3, CoinDesk::spend);
        refused("end: none is open", BoundaryTest::busy, -1, CoinDesk::end);
        refused("end: a new object", BoundaryTest::untouched, -1, CoinDesk::end);
        refused("back: a new object", BoundaryTest::untouched, -1, CoinDesk::back);
        refused("back: all forgotten", BoundaryTest::allForgotten, -1, CoinDesk::back);
        refused("forget: a new object", BoundaryTest::untouched, -1, CoinDesk::forget);
        refused("forget: all forgotten", BoundaryTest::allForgotten, -1, CoinDesk::forget);
        refused("forget: only an open one", BoundaryTest::onlyAnOpenOne, -1, CoinDesk::forget);
        refused("look: another what", BoundaryTest::busy, -1, x -> x.look(4));
        refused("look: no such coin", BoundaryTest::fullOfUnspent, -1, x -> x.look(0));
        refused("byteOf: no such byte", BoundaryTest::busy, -1, x -> x.byteOf(MOST_BYTES));
        refused("byteOf: no such coin", BoundaryTest::fullOfUnspent, -1, x -> x.byteOf(0));
        refused("count: another what", BoundaryTest::busy, -1, x -> x.count(5));
    }

    private static void promisesOfTheHand() {
        says("Promise 1", "No coins, no blocks.", BoundaryTest::newObject);
        says("Promise 1", "U is unspent if that is 2 .. 200", BoundaryTest::limitsThatAreTaken);
        says("Promise 1, too small", "otherwise 60", () -> limitIsSixty(1, 0, -1, -60, Integer.MIN_VALUE));
        says("Promise 1, too large", "otherwise 60", () -> limitIsSixty(201, 202, 256 + 5, 400, Integer.MAX_VALUE));
        says("Promise 2", "The key in hand.", BoundaryTest::lastKeyCounts);
        says("Promise 3", "The script in hand has no bytes.", BoundaryTest::emptying);
        says("Promise 4", "The lowest n bytes of v, the highest of them first, come behind the script in hand: true",
                BoundaryTest::lowestBytes);
        says("Promise 4, too small", "false if n is not 1 .. 8", () -> putIsRefused(0, -1, -8, Integer.MIN_VALUE));
        says("Promise 4, too large", "false if n is not 1 .. 8",
                () -> putIsRefused(9, 10, 16, 200, 256 + 1, Integer.MAX_VALUE - 7, Integer.MAX_VALUE));
        says("Promise 4", "or there would be more than 200", BoundaryTest::puttingUpToFull);
    }

    private static void promisesOfBlocks() {
        says("Promise 5", "A block is open: true; false if one is", BoundaryTest::beginningTwice);
        says("Promise 5", "or there are 64 records", BoundaryTest::beginningBesideAllRecords);
        says("Promise 6", "A coin of the key and script in hand is made, at the height.", BoundaryTest::makingAtHeight);
        says("Promise 6, the longest and the empty script", "A coin of the key and script in hand is made",
                BoundaryTest::makingLongAndEmptyScripts);
        says("Promise 6", "A fault, or 0.", BoundaryTest::makingEachFault);
        says("Promise 7", "A fault, or 0.", BoundaryTest::spendingEachFault);
        says("Promise 8", "how many coins it made and spent", BoundaryTest::endingCounts);
        says("Promise 8", "-1, refused, if none is open.", BoundaryTest::endingNone);
        says("Promise 9", "The open block, if there is one, otherwise the latest that has a record, is taken back",
                BoundaryTest::takingBackOpenThenLatest);
        says("Promise 9", "how many things were undone", BoundaryTest::takingBackCounts);
        says("Promise 9", "-1, refused, if there is none.", BoundaryTest::takingBackNone);
        says("Promise 10", "The oldest record, not of an open block, is forgotten", BoundaryTest::forgettingOldest);
        says("Promise 10", "how many coins are gone", BoundaryTest::forgettingCounts);
        says("Promise 10", "-1, refused, if there is none.", BoundaryTest::forgettingNone);
    }

    private static void promisesOfAnswers() {
        says("Promise 11", "Whether there is an unspent coin of the key in hand.", BoundaryTest::having);
        says("Promise 12", "0 its value, 1 the height, 2 whether it is a first one (1 or 0), 3 how many bytes",
                BoundaryTest::lookingAtFarCoins);
        says("Promise 12", "-1 if there is none", BoundaryTest::lookingAtNone);
        says("Promise 12", "or for another what", BoundaryTest::lookingForAnother);
        says("Promise 13", "Byte i of its script", BoundaryTest::everyByte);
        says("Promise 13, no such byte", "-1 if there is none.", BoundaryTest::noSuchByte);
        says("Promise 13, no such coin", "-1 if there is none.", BoundaryTest::bytesOfNone);
        says("Promise 14", "-1 for another what.", BoundaryTest::countingAnother);
        says("Promise 14", "4 whether a block is open (1 or 0)", BoundaryTest::countingOpen);
        says("Promise 15, of none", "The sum of the values of all unspent coins", BoundaryTest::totalOfNone);
        says("Promise 15", "(it wraps)", BoundaryTest::totalWraps);
    }

    // ---- Terms ----

    private static void allCallsUpToTheLast() {
        Desk d = new Desk(127);
        d.x().begin();
        d.waste(254);
        d.x().make(5, false);
        due("call 511, a spend of one more than 2 * 127", d.x().spend(), 3);
        due("call 512", d.x().look(0), 5);
        due("calls of this test", d.calls, MOST_CALLS);
    }

    private static void farKeys() {
        long[] far = {Long.MIN_VALUE, Long.MAX_VALUE, -1, 1, 1L << 31, 1L << 32, 1L << 62, 255, 256};
        Desk d = new Desk(200);
        d.x().begin();
        long value = 0;
        for (int part = 0; part < 4; part++) {
            for (long number : far) {
                tellPart(d, part, number);
                value++;
                due("make of a new key", d.x().make(value, false), 0);
            }
        }
        int[] indexes = {Integer.MIN_VALUE, Integer.MAX_VALUE, -1, 0, 1, 1 << 16, 255, 256};
        for (int index : indexes) {
            d.index(index);
            value++;
            due("make of a new index", d.x().make(value, false), 0);
        }
        value = 0;
        for (int part = 0; part < 4; part++) {
            for (long number : far) {
                tellPart(d, part, number);
                value++;
                due("value of number " + part + " = " + number, d.x().look(0), value);
            }
        }
        for (int index : indexes) {
            value++;
            due("value of index " + index, d.value(index), value);
        }
    }

    private static void tellPart(Desk d, int part, long number) {
        d.x().key(part == 0 ? number : 0, part == 1 ? number : 0, part == 2 ? number : 0, part == 3 ? number : 0, 0);
    }

    private static void emptyAndFullScripts() {
        Desk d = new Desk(2);
        d.x().begin();
        d.script(0);
        due("make of no bytes", d.make(1, 1), 0);
        d.script(MOST_BYTES);
        due("make of 200 bytes", d.make(2, 2), 0);
        d.x().end();
        d.x().begin();
        d.spend(1);
        d.spend(2);
        d.script(3);
        due("make of 3 bytes", d.make(1, 3), 0);
        due("its bytes", d.x().look(3), 3);
        d.x().back();
        d.index(1);
        due("no bytes, spent and back", d.x().look(3), 0);
        due("their byte 0", d.x().byteOf(0), -1);
        d.index(2);
        due("200 bytes, spent and back", d.x().look(3), MOST_BYTES);
        for (int i = 0; i < MOST_BYTES; i++) {
            due("their byte " + i, d.x().byteOf(i), i + 1);
        }
        due("behind them", d.x().byteOf(MOST_BYTES), -1);
    }

    private static void manySpentOfOneKey() {
        Desk d = new Desk(3);
        for (int i = 0; i < 6; i++) {
            d.x().begin();
            due("make " + i, d.x().make(10 + i, i % 2 == 0), 0);
            due("make of one more while it is unspent", d.x().make(99, false), 2);
            d.x().end();
            d.x().begin();
            due("spend " + i, d.x().spend(), 0);
            d.x().end();
        }
        counts("six spent coins of one key", d, 12, 0, 6, 12, 0);
        for (int i = 5; i >= 0; i--) {
            due("back of a spending", d.x().back(), 1);
            due("the coin that comes again", d.x().look(0), 10 + i);
            due("its height", d.x().look(1), 2 * i);
            due("whether it is a first one", d.x().look(2), i % 2 == 0 ? 1 : 0);
            due("spent and kept", d.x().count(2), i);
            due("back of a making", d.x().back(), 1);
            due("the coin is gone", d.x().has(), false);
        }
    }

    private static void firstHand() {
        Desk d = new Desk(2);
        d.x().begin();
        due("make of the first hand", d.x().make(4, true), 0);
        due("bytes of the first script", d.x().look(3), 0);
        due("byte 0 of the first script", d.x().byteOf(0), -1);
        d.x().key(0, 0, 0, 0, 1);
        due("another index", d.x().has(), false);
        d.x().key(0, 0, 0, 0, 0);
        due("all numbers 0", d.x().has(), true);
    }

    private static void oneOpenBlock() {
        Desk d = new Desk(2);
        due("open at first", d.x().count(4), 0);
        due("begin", d.x().begin(), true);
        due("begin of a second", d.x().begin(), false);
        due("open", d.x().count(4), 1);
        due("records", d.x().count(3), 1);
        due("end", d.x().end(), 0);
        due("open after one end", d.x().count(4), 0);
        due("a second end", d.x().end(), -1);
    }

    private static void heightOfEnded() {
        Desk d = new Desk(2);
        due("height of a new object", d.x().count(0), 0);
        d.x().back();
        d.x().end();
        due("after a refused back and end", d.x().count(0), 0);
        d.x().begin();
        due("an open block does not count", d.x().count(0), 0);
        d.x().back();
        due("an open block taken back changes no height", d.x().count(0), 0);
        d.blocks(3);
        due("three ended", d.x().count(0), 3);
        d.x().begin();
        d.x().back();
        due("an open fourth taken back", d.x().count(0), 3);
        d.x().forget();
        due("a forgotten one counts", d.x().count(0), 3);
        d.x().back();
        d.x().back();
        due("two taken back", d.x().count(0), 1);
        d.x().back();
        due("a refused back of the forgotten one", d.x().count(0), 1);
        d.x().begin();
        d.x().make(1, false);
        due("height of a coin made now", d.x().look(1), 1);
    }

    private static void heightBeyondTheRecords() {
        Desk d = new Desk(2);
        d.blocks(MOST_RECORDS);
        for (int i = 0; i < 100; i++) {
            d.x().forget();
            d.blocks(1);
        }
        due("height", d.x().count(0), 164);
        due("records", d.x().count(3), MOST_RECORDS);
        d.x().forget();
        d.x().begin();
        d.x().make(1, false);
        due("height of a coin", d.x().look(1), 164);
        d.x().end();
        due("back", d.x().back(), 1);
        due("height after back", d.x().count(0), 164);
    }

    private static void spendingWhatTheBlockMade() {
        Desk d = new Desk(2);
        d.x().begin();
        due("make", d.make(1, 1), 0);
        due("spend of what this block made", d.x().spend(), 0);
        due("spend of what this block spent", d.x().spend(), 2);
        due("make of it again", d.x().make(2, false), 0);
        due("end", d.x().end(), 3);
        d.x().begin();
        due("spend of what an earlier block made", d.x().spend(), 0);
        due("end", d.x().end(), 1);
    }

    private static void recordsOfEmptyBlocks() {
        Desk d = new Desk(2);
        d.blocks(1);
        due("the record of a block that did nothing", d.x().count(3), 1);
        d.x().begin();
        d.make(1, 1);
        d.x().end();
        d.blocks(1);
        due("three records", d.x().count(3), 3);
        due("the latest is taken back first", d.x().back(), 0);
        due("then the one before", d.x().back(), 1);
        due("then the first", d.x().back(), 0);
        due("no records", d.x().count(3), 0);
    }

    private static void takingBackOnAFullDesk() {
        Desk d = new Desk(2);
        d.x().begin();
        d.make(1, 10);
        d.make(2, 20);
        d.x().end();
        d.x().begin();
        int[] spentThenMade = {1, 3, 2, 4, 3, 2, 4, 1};
        for (int i = 0; i < spentThenMade.length; i += 2) {
            due("spend of " + spentThenMade[i], d.spend(spentThenMade[i]), 0);
            due("make of " + spentThenMade[i + 1], d.make(spentThenMade[i + 1], 30 + i), 0);
        }
        counts("full of unspent and of spent", d, 1, 2, 4, 2, 1);
        due("make of one more", d.make(5, 1), 3);
        due("spend of one more", d.spend(1), 3);
        due("back", d.x().back(), 8);
        counts("back", d, 1, 2, 0, 1, 0);
        due("coin 1", d.value(1), 10);
        due("coin 2", d.value(2), 20);
        due("coin 3", d.value(3), -1);
        due("coin 4", d.value(4), -1);
    }

    private static void takingBackWhatWasMadeAndSpent() {
        Desk d = new Desk(3);
        d.x().begin();
        d.make(1, 10);
        d.make(2, 20);
        d.x().spend();
        d.make(2, 21);
        d.x().spend();
        due("back: each of the five things", d.x().back(), 5);
        counts("nothing is left", d, 0, 0, 0, 0, 0);
        due("coin 1", d.value(1), -1);
        due("coin 2", d.value(2), -1);
        due("total", d.x().total(), 0);
        due("its record is gone", d.x().back(), -1);
    }

    private static void forgottenIsNotTakenBack() {
        Desk d = new Desk(3);
        d.x().begin();
        d.make(1, 10);
        d.x().end();
        d.x().begin();
        d.make(2, 20);
        d.x().end();
        due("forget", d.x().forget(), 0);
        due("back of the latest", d.x().back(), 1);
        due("back of the forgotten one", d.x().back(), -1);
        due("its coin stays", d.value(1), 10);
        due("the other's is gone", d.value(2), -1);
        counts("height and records", d, 1, 1, 0, 0, 0);
    }

    private static void onlySpentCoinsGo() {
        Desk d = new Desk(4);
        d.x().begin();
        d.make(1, 10);
        d.make(2, 20);
        d.make(3, 30);
        d.x().spend();
        d.x().end();
        d.x().begin();
        d.spend(2);
        d.x().end();
        due("forget: coin 3 alone is gone", d.x().forget(), 1);
        counts("coin 1 is unspent, coin 2 spent and kept", d, 2, 1, 1, 1, 0);
        due("coin 1", d.value(1), 10);
        due("back of the second", d.x().back(), 1);
        due("coin 2, made by the forgotten one, is unspent again", d.value(2), 20);
        due("coin 3", d.value(3), -1);
    }

    private static void twoDesks() {
        Desk one = new Desk(2);
        Desk two = new Desk(2);
        one.x().begin();
        one.script(8);
        one.make(1, 10);
        one.make(2, 20);
        counts("the other, untouched", two, 0, 0, 0, 0, 0);
        due("the other has no open block", two.x().make(1, false), 1);
        two.x().begin();
        due("the other has the first key and room", two.x().make(1, false), 0);
        due("the other has the first script", two.x().look(3), 0);
        due("the other's total", two.x().total(), 1);
        two.x().back();
        counts("the first stays", one, 0, 2, 0, 1, 1);
        due("its total", one.x().total(), 30);
    }

    // ---- Limits and faults ----

    private static void limitOfUnspent() {
        for (int u : new int[] {2, 3, 7, 59, 60, 61, 128, 199, 200}) {
            checkUnspentLimit(u, u);
        }
    }

    private static void checkUnspentLimit(int asked, int u) {
        Desk d = new Desk(asked);
        d.x().begin();
        for (int i = 0; i < u; i++) {
            due("make " + i + " of " + asked, d.make(i, 1), 0);
        }
        due("make of one more than " + u, d.make(u, 1), 3);
        due("it was not made", d.x().has(), false);
        due("unspent", d.x().count(1), u);
        due("total", d.x().total(), u);
    }

    private static void roomForUnspentAgain() {
        Desk d = new Desk(2);
        d.x().begin();
        d.make(1, 1);
        d.make(2, 2);
        due("full", d.make(3, 4), 3);
        d.spend(1);
        due("room after a spend", d.make(3, 4), 0);
        due("full again", d.make(4, 8), 3);
        d.x().end();
        d.x().forget();
        d.x().begin();
        due("forgetting makes no room for unspent ones", d.make(4, 8), 3);
        due("spend", d.spend(2), 0);
        due("make", d.make(4, 8), 0);
        due("back", d.x().back(), 2);
        d.x().begin();
        due("full after back", d.make(4, 8), 3);
        due("total", d.x().total(), 6);
    }

    private static void limitOfSpent() {
        for (int u : new int[] {2, 3, 7, 60, 61, 100}) {
            checkSpentLimit(u, u);
        }
    }

    private static void checkSpentLimit(int asked, int u) {
        Desk d = new Desk(asked);
        d.x().begin();
        for (int i = 0; i < 2 * u; i++) {
            d.x().make(i, false);
            due("spend " + i + " of " + asked, d.x().spend(), 0);
        }
        due("spent and kept", d.x().count(2), 2 * u);
        due("make is free of that limit", d.x().make(5, false), 0);
        due("spend of one more than 2 * " + u, d.x().spend(), 3);
        due("it is unspent still", d.x().look(0), 5);
        counts("full of spent ones", d, 0, 1, 2 * u, 1, 1);
    }

    private static void limitOfSpentInAllRecords() {
        Desk d = new Desk(2);
        for (int i = 0; i < 4; i++) {
            d.x().begin();
            d.x().make(i, false);
            due("spend in block " + i, d.x().spend(), 0);
            d.x().end();
        }
        d.x().begin();
        d.x().make(4, false);
        due("spend in one block more", d.x().spend(), 3);
        due("spent and kept", d.x().count(2), 4);
    }

    private static void roomForSpentAgain() {
        Desk d = new Desk(2);
        d.x().begin();
        d.waste(3);
        d.x().end();
        d.x().begin();
        d.waste(1);
        d.x().make(7, false);
        due("full", d.x().spend(), 3);
        due("forget", d.x().forget(), 3);
        due("room after forget", d.x().spend(), 0);
        d.waste(2);
        d.x().make(8, false);
        due("full again", d.x().spend(), 3);
        due("back", d.x().back(), 9);
        due("none is spent", d.x().count(2), 0);
        d.x().begin();
        d.waste(4);
        d.x().make(9, false);
        due("full after back", d.x().spend(), 3);
    }

    private static void limitOfRecords() {
        Desk d = new Desk(2);
        d.blocks(MOST_RECORDS - 1);
        due("begin beside 63 records", d.x().begin(), true);
        due("the open one's is one of 64", d.x().count(3), MOST_RECORDS);
        due("end", d.x().end(), 0);
        due("begin beside 64 records", d.x().begin(), false);
        due("back", d.x().back(), 0);
        due("begin after back", d.x().begin(), true);
        due("forget beside the open one", d.x().forget(), 0);
        due("63 records", d.x().count(3), MOST_RECORDS - 1);
        due("end", d.x().end(), 0);
        due("begin after forget", d.x().begin(), true);
        due("end", d.x().end(), 0);
        due("begin beside 64 records again", d.x().begin(), false);
        counts("64 records", d, MOST_RECORDS + 1, 0, 0, MOST_RECORDS, 0);
    }

    private static void firstFaultOfMaking() {
        Desk d = new Desk(2);
        due("1 alone", d.make(1, 1), 1);
        d.x().begin();
        d.make(1, 1);
        due("2 alone", d.make(1, 1), 2);
        d.make(2, 1);
        due("2 before 3", d.make(1, 1), 2);
        due("3 alone", d.make(3, 1), 3);
        d.x().end();
        due("1 before 2 and 3", d.make(2, 1), 1);
        due("1 before 3", d.make(3, 1), 1);
        d.x().begin();
        d.spend(2);
        d.x().end();
        due("1 before 2", d.make(1, 1), 1);
    }

    private static void firstFaultOfSpending() {
        Desk d = new Desk(2);
        due("1 before 2", d.spend(1), 1);
        d.x().begin();
        due("2 alone", d.spend(1), 2);
        d.waste(4);
        due("2 before 3", d.spend(1), 2);
        d.make(1, 1);
        due("3 alone", d.spend(1), 3);
        d.x().end();
        due("1 before 3", d.spend(1), 1);
        due("1 before 2 and 3", d.spend(2), 1);
        d.x().forget();
        due("1 alone", d.spend(1), 1);
    }

    private static void noFault() {
        Desk d = new Desk(2);
        d.x().begin();
        due("make", d.make(1, 0), 0);
        due("make of the last that has room", d.make(2, -1), 0);
        due("spend", d.spend(1), 0);
        due("spend", d.spend(2), 0);
        d.waste(1);
        d.make(3, 3);
        due("spend of the last that has room", d.x().spend(), 0);
        due("make beside as many spent ones as can be", d.make(3, 3), 0);
    }

    // ---- "A call that is refused changes nothing." ----

    private static long bit(boolean b) {
        return b ? 1 : 0;
    }

    /** Two desks alike, of which one is asked what it refuses; then both go on, and answer the same. */
    private static void refused(String which, Consumer<Desk> before, long answer, ToLongFunction<CoinDesk> call) {
        says("Terms, " + which, "A call that is refused changes nothing.", () -> {
            for (int way = 0; way < WAYS_ON; way++) {
                Desk spared = new Desk(3);
                Desk asked = new Desk(3);
                before.accept(spared);
                before.accept(asked);
                for (int times = 0; times < 3; times++) {
                    due("the refused call", call.applyAsLong(asked.x()), answer);
                }
                String due = goOn(way, spared);
                String got = goOn(way, asked);
                if (!due.equals(got)) {
                    fail("way on " + way + " answered\n      " + got + ", due is\n      " + due);
                }
            }
        });
    }

    private static final int WAYS_ON = 5;

    private static String goOn(int way, Desk d) {
        StringBuilder log = new StringBuilder();
        switch (way) {
            case 0: seeKeyInHand(d, log); break;
            case 1: seeScriptInHand(d, log); break;
            case 2: takeAllBack(d, log); break;
            case 3: forgetAll(d, log); break;
            default: fillUp(d, log); break;
        }
        seeAll(d, log);
        return log.toString();
    }

    private static void tell(StringBuilder log, String what, long answer) {
        log.append(what).append(' ').append(answer).append("; ");
    }

    private static void seeCounts(Desk d, StringBuilder log) {
        for (int what = 0; what <= 4; what++) {
            tell(log, "count", d.x().count(what));
        }
        tell(log, "total", d.x().total());
    }

    private static void seeCoin(Desk d, StringBuilder log) {
        for (int what = 0; what <= 3; what++) {
            tell(log, "look", d.x().look(what));
        }
        long bytes = d.x().look(3);
        for (int i : new int[] {0, 1, 2, 3, (int) bytes - 1}) {
            tell(log, "byte", d.x().byteOf(i));
        }
    }

    private static void seeAll(Desk d, StringBuilder log) {
        seeCounts(d, log);
        for (int index = 0; index <= 5; index++) {
            d.index(index);
            seeCoin(d, log);
        }
    }

    private static void seeKeyInHand(Desk d, StringBuilder log) {
        seeCoin(d, log);
        tell(log, "make", d.x().make(55, true));
        tell(log, "spend", d.x().spend());
        tell(log, "end", d.x().end());
    }

    /** Makes room of each kind first, so that the script in hand is always seen. */
    private static void seeScriptInHand(Desk d, StringBuilder log) {
        tell(log, "end", d.x().end());
        tell(log, "forget", d.x().forget());
        tell(log, "forget", d.x().forget());
        tell(log, "begin", bit(d.x().begin()));
        tell(log, "spend", d.spend(1));
        tell(log, "spend", d.spend(2));
        d.index(NOTHING_TOLD);
        tell(log, "make", d.x().make(66, true));
        seeCoin(d, log);
        tell(log, "put", bit(d.x().put(0x0708, 2)));
        d.index(NOTHING_TOLD + 1);
        tell(log, "make", d.x().make(67, true));
        seeCoin(d, log);
    }

    private static void takeAllBack(Desk d, StringBuilder log) {
        for (int i = 0; i <= MOST_RECORDS; i++) {
            int undone = d.x().back();
            tell(log, "back", undone);
            tell(log, "total", d.x().total());
            if (undone < 0) {
                return;
            }
        }
    }

    private static void forgetAll(Desk d, StringBuilder log) {
        for (int i = 0; i <= MOST_RECORDS; i++) {
            int gone = d.x().forget();
            tell(log, "forget", gone);
            tell(log, "spent", d.x().count(2));
            if (gone < 0) {
                break;
            }
        }
        tell(log, "back", d.x().back());
    }

    /** Begins or goes on with a block, and finds out how much room there is of each kind. */
    private static void fillUp(Desk d, StringBuilder log) {
        tell(log, "begin", bit(d.x().begin()));
        for (int i = 0; i < 8; i++) {
            tell(log, "make", d.make(i, i));
        }
        for (int i = 0; i < 8; i++) {
            tell(log, "spend", d.spend(i));
            tell(log, "make", d.x().make(i, true));
        }
        seeCounts(d, log);
        tell(log, "end", d.x().end());
        tell(log, "back", d.x().back());
        for (int i = 0; i < 3; i++) {
            tell(log, "put", bit(d.x().put(i, 8)));
        }
    }

    // The states in which calls are refused.

    private static void untouched(Desk d) {
        due("a new object has no records", d.x().count(3), 0);
    }

    /** Some coins, unspent and spent, two records, no open block; coin 1 in hand. */
    private static void busy(Desk d) {
        d.x().begin();
        d.x().put(0x010203, 3);
        d.make(1, 10);
        d.make(2, 20);
        d.x().end();
        d.x().begin();
        d.spend(2);
        d.x().put(0x04, 1);
        d.make(3, 30);
        d.x().end();
        d.index(1);
    }

    private static void busyWithFullScript(Desk d) {
        busy(d);
        d.script(MOST_BYTES);
    }

    private static void busyWithAlmostFullScript(Desk d) {
        busy(d);
        d.script(MOST_BYTES - 1);
    }

    private static void busyAndOpen(Desk d) {
        busy(d);
        d.x().begin();
        d.spend(3);
        d.make(4, 40);
        d.index(1);
    }

    private static void fullOfRecords(Desk d) {
        busy(d);
        d.blocks(MOST_RECORDS - 2);
    }

    private static void fullOfRecordsAndOpen(Desk d) {
        busy(d);
        d.blocks(MOST_RECORDS - 3);
        d.x().begin();
        d.make(4, 40);
    }

    /** As many unspent coins as can be, in an open block; a key without a coin in hand. */
    private static void fullOfUnspent(Desk d) {
        busyAndOpen(d);
        d.make(5, 50);
        d.index(NOTHING_TOLD);
    }

    private static void fullOfSpent(Desk d) {
        busyAndOpen(d);
        d.index(2);
        d.waste(4);
        d.index(1);
    }

    private static void allForgotten(Desk d) {
        busy(d);
        d.x().forget();
        d.x().forget();
    }

    private static void onlyAnOpenOne(Desk d) {
        allForgotten(d);
        d.x().begin();
        d.spend(3);
        d.make(4, 40);
        d.index(1);
    }

    // ---- Promises 1 to 4 ----

    private static void newObject() {
        for (int unspent : new int[] {2, 60, 200, 0, 201}) {
            Desk d = new Desk(unspent);
            counts("new", d, 0, 0, 0, 0, 0);
            due("has", d.x().has(), false);
            due("total", d.x().total(), 0);
            due("make", d.x().make(1, false), 1);
            due("spend", d.x().spend(), 1);
            due("end", d.x().end(), -1);
            due("back", d.x().back(), -1);
            due("forget", d.x().forget(), -1);
        }
    }

    private static void limitsThatAreTaken() {
        for (int u : new int[] {2, 3, 199, 200}) {
            checkUnspentLimit(u, u);
        }
        checkSpentLimit(2, 2);
        checkSpentLimit(3, 3);
    }

    private static void limitIsSixty(int... asked) {
        for (int unspent : asked) {
            checkUnspentLimit(unspent, 60);
            checkSpentLimit(unspent, 60);
        }
    }

    private static void lastKeyCounts() {
        Desk d = new Desk(2);
        d.x().key(9, 9, 9, 9, 9);
        d.x().key(1, 2, 3, 4, 5);
        d.x().begin();
        due("make", d.x().make(7, false), 0);
        d.x().key(5, 4, 3, 2, 1);
        due("the numbers the other way", d.x().has(), false);
        d.x().key(9, 9, 9, 9, 9);
        due("the key told before", d.x().has(), false);
        d.x().key(1, 2, 3, 4, 5);
        due("the last key told before make", d.x().has(), true);
        d.x().end();
        d.x().back();
        d.x().begin();
        due("ending and taking back leave the key", d.x().make(8, false), 0);
        d.x().key(1, 2, 3, 4, 5);
        due("it is that key's", d.x().look(0), 8);
    }

    private static void emptying() {
        Desk d = new Desk(200);
        d.x().begin();
        for (int bytes : new int[] {0, 1, 8, 9, MOST_BYTES - 1, MOST_BYTES}) {
            d.script(bytes);
            d.make(2 * bytes, 1);
            due("bytes before", d.x().look(3), bytes);
            d.x().empty();
            due("bytes of the coin that was made", d.x().look(3), bytes);
            d.make(2 * bytes + 1, 1);
            due("bytes after empty of " + bytes, d.x().look(3), 0);
            due("byte 0 after empty of " + bytes, d.x().byteOf(0), -1);
        }
        d.script(MOST_BYTES);
        d.x().empty();
        for (int i = 0; i < 25; i++) {
            due("put " + i + " after empty of a full one", d.x().put(i, 8), true);
        }
        due("full again", d.x().put(0, 1), false);
    }

    private static void lowestBytes() {
        long[] values = {0x8192A3B4C5D6E7F8L, 0, -1, Long.MIN_VALUE, Long.MAX_VALUE, 0x80, 0xFF00FF00FF00FF00L};
        for (long v : values) {
            Desk d = new Desk(60);
            d.x().begin();
            d.x().put(0x42, 1);
            for (int n = 1; n <= 8; n++) {
                d.x().empty();
                due("put of the byte before", d.x().put(0x42, 1), true);
                due("put of " + n, d.x().put(v, n), true);
                d.make(n, 1);
                due("bytes", d.x().look(3), n + 1);
                due("the byte before", d.x().byteOf(0), 0x42);
                for (int i = 0; i < n; i++) {
                    long want = v >> 8 * (n - 1 - i) & 0xFF;
                    due("byte " + i + " of " + n + " of " + v, d.x().byteOf(i + 1), want);
                }
                due("behind them", d.x().byteOf(n + 1), -1);
            }
        }
    }

    private static void putIsRefused(int... lengths) {
        for (int n : lengths) {
            for (int bytes : new int[] {0, 5, MOST_BYTES - 1, MOST_BYTES}) {
                Desk d = new Desk(2);
                d.script(bytes);
                due("put of " + n + " behind " + bytes, d.x().put(-1, n), false);
                d.x().begin();
                d.x().make(1, false);
                due("bytes after put of " + n, d.x().look(3), bytes);
                due("last byte after put of " + n, d.x().byteOf(bytes - 1), bytes == 0 ? -1 : bytes);
            }
        }
    }

    private static void puttingUpToFull() {
        for (int bytes = MOST_BYTES - 9; bytes <= MOST_BYTES; bytes++) {
            for (int n = 1; n <= 8; n++) {
                Desk d = new Desk(2);
                d.script(bytes);
                boolean fits = bytes + n <= MOST_BYTES;
                int due = fits ? bytes + n : bytes;
                due("put of " + n + " behind " + bytes, d.x().put(-1, n), fits);
                d.x().begin();
                d.x().make(1, false);
                due("bytes after put of " + n + " behind " + bytes, d.x().look(3), due);
                due("the last byte", d.x().byteOf(due - 1), fits ? 0xFF : bytes);
                due("the last byte of those before", d.x().byteOf(bytes - 1), bytes);
                due("behind the last byte", d.x().byteOf(due), -1);
            }
        }
    }

    // ---- Promises 5 to 10 ----

    private static void beginningTwice() {
        Desk d = new Desk(2);
        due("begin", d.x().begin(), true);
        d.make(1, 10);
        due("begin of one more", d.x().begin(), false);
        due("end: the same block went on", d.x().end(), 1);
        due("begin after end", d.x().begin(), true);
        due("begin of one more", d.x().begin(), false);
        due("back", d.x().back(), 0);
        due("begin after back", d.x().begin(), true);
        counts("one ended, one open", d, 1, 1, 0, 2, 1);
    }

    private static void beginningBesideAllRecords() {
        Desk d = new Desk(2);
        for (int i = 0; i < MOST_RECORDS; i++) {
            due("begin beside " + i + " records", d.x().begin(), true);
            d.x().end();
        }
        due("begin beside 64 records", d.x().begin(), false);
        due("no block is open", d.x().count(4), 0);
        due("make", d.x().make(1, false), 1);
        due("end", d.x().end(), -1);
        due("records", d.x().count(3), MOST_RECORDS);
        due("forget", d.x().forget(), 0);
        due("begin after forget", d.x().begin(), true);
        due("begin, open and beside 64 records", d.x().begin(), false);
        due("back of the open one", d.x().back(), 0);
        due("begin after back", d.x().begin(), true);
    }

    private static void makingAtHeight() {
        Desk d = new Desk(4);
        d.x().begin();
        d.make(1, 1);
        due("in the first block", d.x().look(1), 0);
        d.x().end();
        due("it stays when the block ends", d.x().look(1), 0);
        d.blocks(2);
        d.x().begin();
        d.make(2, 1);
        due("in the fourth block", d.x().look(1), 3);
        d.x().back();
        d.x().back();
        d.x().begin();
        d.make(2, 1);
        due("after two backs, one of them of an open block", d.x().look(1), 2);
        d.index(1);
        due("the first coin", d.x().look(1), 0);
    }

    private static void makingLongAndEmptyScripts() {
        Desk d = new Desk(3);
        d.script(MOST_BYTES);
        d.x().begin();
        d.make(1, 1);
        d.make(2, 1);
        due("the script stays in hand", d.x().look(3), MOST_BYTES);
        d.x().back();
        d.x().begin();
        d.x().empty();
        d.make(1, 1);
        due("no bytes, after a coin that is gone", d.x().look(3), 0);
        due("byte 0, after a coin that is gone", d.x().byteOf(0), -1);
        d.script(MOST_BYTES);
        d.make(2, 1);
        due("200 bytes, after a coin that is gone", d.x().look(3), MOST_BYTES);
        due("the last of them", d.x().byteOf(MOST_BYTES - 1), MOST_BYTES);
        d.index(1);
        due("the other has none still", d.x().look(3), 0);
    }

    private static void makingEachFault() {
        Desk d = new Desk(2);
        due("no block is open", d.make(1, 5), 1);
        due("nothing was made", d.x().has(), false);
        d.x().begin();
        due("no fault", d.x().make(5, true), 0);
        due("such a coin", d.x().make(6, false), 2);
        due("its value", d.x().look(0), 5);
        due("its first", d.x().look(2), 1);
        due("no fault", d.make(2, 6), 0);
        due("no room", d.make(3, 7), 3);
        due("nothing was made", d.x().has(), false);
        due("end: what was refused does not count", d.x().end(), 2);
        due("no block is open", d.make(3, 7), 1);
        due("back: what was refused is not undone", d.x().back(), 2);
        due("no block is open after back", d.make(3, 7), 1);
    }

    private static void spendingEachFault() {
        Desk d = new Desk(2);
        due("no block is open", d.spend(1), 1);
        d.x().begin();
        due("no such coin", d.spend(1), 2);
        d.make(1, 5);
        due("a coin of another key", d.spend(2), 2);
        due("no fault", d.spend(1), 0);
        due("it is spent already", d.x().spend(), 2);
        d.waste(3);
        d.x().make(9, false);
        due("no room", d.x().spend(), 3);
        due("it is unspent still", d.x().look(0), 9);
        due("end: what was refused does not count", d.x().end(), 9);
        due("no block is open", d.x().spend(), 1);
        due("back: what was refused is not undone", d.x().back(), 9);
        due("no block is open after back", d.x().spend(), 1);
    }

    private static void endingCounts() {
        Desk d = new Desk(60);
        d.x().begin();
        due("a block that did nothing", d.x().end(), 0);
        d.x().begin();
        d.waste(1);
        due("a coin made and spent", d.x().end(), 2);
        d.x().begin();
        d.make(1, 1);
        d.x().end();
        d.x().begin();
        d.x().spend();
        due("a coin spent", d.x().end(), 1);
        d.x().begin();
        d.waste(118);
        d.x().make(1, false);
        due("as many spent ones as can be", d.x().end(), 237);
        counts("five blocks", d, 5, 1, 120, 5, 0);
    }

    private static void endingNone() {
        Desk d = new Desk(2);
        due("end on a new object", d.x().end(), -1);
        d.x().begin();
        d.make(1, 1);
        d.x().end();
        due("end after end", d.x().end(), -1);
        d.x().begin();
        d.x().back();
        due("end after back of the open one", d.x().end(), -1);
        d.x().back();
        due("end after back of the ended one", d.x().end(), -1);
        d.blocks(1);
        d.x().forget();
        due("end after forget", d.x().end(), -1);
        counts("refused ends change no height", d, 1, 0, 0, 0, 0);
    }

    private static void takingBackOpenThenLatest() {
        Desk d = new Desk(3);
        d.x().begin();
        d.make(1, 10);
        d.x().end();
        d.x().begin();
        d.spend(1);
        d.make(2, 20);
        d.x().end();
        d.x().begin();
        d.spend(2);
        d.make(1, 11);
        d.make(3, 30);
        due("back of the open one", d.x().back(), 3);
        counts("the height stays", d, 2, 1, 1, 2, 0);
        due("coin 2", d.value(2), 20);
        due("back of the latest", d.x().back(), 2);
        counts("the height is one less", d, 1, 1, 0, 1, 0);
        due("coin 1", d.value(1), 10);
        due("back of the first", d.x().back(), 1);
        counts("the height is 0", d, 0, 0, 0, 0, 0);
    }

    private static void takingBackCounts() {
        Desk d = new Desk(2);
        d.x().begin();
        due("back of an open one that did nothing", d.x().back(), 0);
        d.blocks(1);
        due("back of an ended one that did nothing", d.x().back(), 0);
        d.x().begin();
        d.waste(4);
        d.make(1, 1);
        d.make(2, 2);
        d.x().end();
        due("back of as much as can be done in one block", d.x().back(), 10);
        counts("nothing is left", d, 0, 0, 0, 0, 0);
    }

    private static void takingBackNone() {
        Desk d = new Desk(2);
        due("back on a new object", d.x().back(), -1);
        d.x().begin();
        d.make(1, 10);
        d.x().back();
        due("back after the only one, an open one", d.x().back(), -1);
        d.x().begin();
        d.make(1, 10);
        d.x().end();
        d.x().back();
        due("back after the only one, an ended one", d.x().back(), -1);
        d.x().begin();
        d.make(1, 10);
        d.x().end();
        d.x().forget();
        due("back of a forgotten one", d.x().back(), -1);
        counts("refused backs change no height", d, 1, 1, 0, 0, 0);
        d.x().begin();
        due("back of an open one beside a forgotten one", d.x().back(), 0);
        due("back once more", d.x().back(), -1);
        due("the forgotten one's coin", d.value(1), 10);
    }

    private static void forgettingOldest() {
        Desk d = new Desk(4);
        for (int i = 1; i <= 3; i++) {
            d.x().begin();
            d.waste(i == 1 ? 0 : i);
            d.make(i, i);
            d.index(0);
            d.x().end();
        }
        d.x().begin();
        d.waste(1);
        counts("three ended, one open", d, 3, 3, 6, 4, 1);
        due("forget of the first", d.x().forget(), 0);
        due("forget of the second", d.x().forget(), 2);
        due("forget of the third", d.x().forget(), 3);
        due("forget of the open one", d.x().forget(), -1);
        counts("the open one is left", d, 3, 3, 1, 1, 1);
        due("end", d.x().end(), 2);
        due("forget of it now", d.x().forget(), 1);
        counts("no records are left", d, 4, 3, 0, 0, 0);
    }

    private static void forgettingCounts() {
        Desk d = new Desk(60);
        d.blocks(1);
        due("forget of one that did nothing", d.x().forget(), 0);
        d.x().begin();
        d.make(1, 1);
        d.x().end();
        due("forget of one that only made", d.x().forget(), 0);
        due("its coin is not gone", d.x().has(), true);
        d.x().begin();
        d.x().spend();
        d.x().end();
        due("forget of one that only spent", d.x().forget(), 1);
        d.x().begin();
        d.waste(120);
        d.x().make(3, false);
        d.x().end();
        due("forget of as many as can be", d.x().forget(), 120);
        counts("all records are forgotten", d, 4, 1, 0, 0, 0);
    }

    private static void forgettingNone() {
        Desk d = new Desk(2);
        due("forget on a new object", d.x().forget(), -1);
        d.x().begin();
        due("forget beside an open one that did nothing", d.x().forget(), -1);
        d.waste(1);
        due("forget beside an open one that spent", d.x().forget(), -1);
        due("back: the open one's record is whole", d.x().back(), 2);
        due("forget after back", d.x().forget(), -1);
        d.blocks(1);
        due("forget", d.x().forget(), 0);
        due("forget once more", d.x().forget(), -1);
        counts("one block was ended", d, 1, 0, 0, 0, 0);
    }

    // ---- Promises 11 to 15 ----

    private static void having() {
        Desk d = new Desk(2);
        due("has on a new object", d.x().has(), false);
        d.x().begin();
        d.make(1, 0);
        due("a coin of value 0", d.x().has(), true);
        d.index(2);
        due("another key", d.x().has(), false);
        d.spend(1);
        due("a spent one", d.x().has(), false);
        d.x().end();
        d.x().forget();
        due("one that is gone", d.x().has(), false);
        d.x().begin();
        d.x().make(-1, false);
        due("a coin of value -1", d.x().has(), true);
        d.x().back();
        due("one that was taken back", d.x().has(), false);
    }

    private static void lookingAtFarCoins() {
        Desk d = new Desk(10);
        d.x().begin();
        long[] values = {Long.MIN_VALUE, Long.MAX_VALUE, -1, 0, 1, 1L << 32, 1L << 31};
        for (int i = 0; i < values.length; i++) {
            d.index(i);
            d.x().make(values[i], i % 2 == 1);
            due("value", d.x().look(0), values[i]);
            due("height", d.x().look(1), 0);
            due("first", d.x().look(2), i % 2);
            due("bytes", d.x().look(3), 0);
        }
        d.script(MOST_BYTES);
        d.make(-1, 1);
        due("200 bytes", d.x().look(3), MOST_BYTES);
    }

    private static void lookingAtNone() {
        Desk d = new Desk(2);
        d.script(5);
        for (int what = -1; what <= 4; what++) {
            due("look " + what + " on a new object", d.x().look(what), -1);
        }
        d.x().begin();
        d.make(1, 5);
        d.index(2);
        for (int what = -1; what <= 4; what++) {
            due("look " + what + " at another key", d.x().look(what), -1);
        }
        d.spend(1);
        for (int what = -1; what <= 4; what++) {
            due("look " + what + " at a spent one", d.x().look(what), -1);
        }
    }

    private static void lookingForAnother() {
        Desk d = new Desk(2);
        d.x().begin();
        d.script(5);
        d.make(1, 7);
        for (int what : FAR_INTS) {
            due("look " + what, d.x().look(what), -1);
        }
        for (int what : new int[] {4, 5, 256, 257, 258, 259, 65536}) {
            due("look " + what, d.x().look(what), -1);
        }
    }

    private static void everyByte() {
        for (int from = 0; from < 256; from += 128) {
            Desk d = new Desk(2);
            for (int i = 0; i < 128; i++) {
                d.x().put(from + i, 1);
            }
            d.x().begin();
            d.x().make(1, false);
            for (int i = 0; i < 128; i++) {
                due("a byte", d.x().byteOf(i), from + i);
            }
        }
    }

    private static void noSuchByte() {
        for (int bytes : new int[] {0, 1, 8, 100, MOST_BYTES - 1, MOST_BYTES}) {
            Desk d = new Desk(2);
            // The row of bytes in hand was longer before: what is behind the end must not be seen.
            d.script(MOST_BYTES);
            d.script(bytes);
            d.x().begin();
            d.x().make(1, false);
            for (int i : FAR_INTS) {
                due("byte " + i + " of " + bytes, d.x().byteOf(i), -1);
            }
            for (int i : new int[] {bytes, bytes + 1, MOST_BYTES, MOST_BYTES + 1, 256, 65536}) {
                due("byte " + i + " of " + bytes, d.x().byteOf(i), -1);
            }
            due("the last of " + bytes, d.x().byteOf(bytes - 1), bytes == 0 ? -1 : bytes);
        }
    }

    private static void bytesOfNone() {
        Desk d = new Desk(2);
        d.script(5);
        due("on a new object", d.x().byteOf(0), -1);
        d.x().begin();
        d.make(1, 5);
        due("of the coin", d.x().byteOf(0), 1);
        d.index(2);
        due("of another key", d.x().byteOf(0), -1);
        d.spend(1);
        due("of a spent one", d.x().byteOf(0), -1);
        due("before the first, of a spent one", d.x().byteOf(-1), -1);
    }

    private static void countingAnother() {
        Desk d = new Desk(2);
        countIsRefused(d);
        d.blocks(2);
        d.x().begin();
        d.waste(1);
        d.make(1, 1);
        countIsRefused(d);
        counts("each that is told", d, 2, 1, 1, 3, 1);
    }

    private static void countIsRefused(Desk d) {
        for (int what : FAR_INTS) {
            due("count " + what, d.x().count(what), -1);
        }
        for (int what : new int[] {5, 6, 256, 257, 260, 65536}) {
            due("count " + what, d.x().count(what), -1);
        }
    }

    private static void countingOpen() {
        Desk d = new Desk(2);
        due("new", d.x().count(4), 0);
        d.x().begin();
        due("open", d.x().count(4), 1);
        d.x().back();
        due("taken back", d.x().count(4), 0);
        d.x().begin();
        d.x().end();
        due("ended", d.x().count(4), 0);
        d.x().begin();
        d.x().forget();
        due("open beside a forgotten one", d.x().count(4), 1);
    }

    private static void totalOfNone() {
        Desk d = new Desk(2);
        due("on a new object", d.x().total(), 0);
        d.x().begin();
        d.make(1, 5);
        d.x().spend();
        due("all are spent", d.x().total(), 0);
        d.make(2, 6);
        d.x().back();
        due("all are taken back", d.x().total(), 0);
    }

    private static void totalWraps() {
        Desk d = new Desk(5);
        d.x().begin();
        d.make(1, Long.MAX_VALUE);
        due("as large as can be", d.x().total(), Long.MAX_VALUE);
        d.make(2, 1);
        due("one more wraps", d.x().total(), Long.MIN_VALUE);
        d.make(3, -1);
        due("one less wraps back", d.x().total(), Long.MAX_VALUE);
        d.make(4, Long.MAX_VALUE);
        due("twice the largest", d.x().total(), -2);
        d.make(5, Long.MIN_VALUE);
        due("and the smallest", d.x().total(), Long.MAX_VALUE - 1);
        d.spend(1);
        due("less the largest", d.x().total(), -1);
        d.spend(4);
        due("less the largest again", d.x().total(), Long.MIN_VALUE);
        d.spend(2);
        due("the smallest less 1", d.x().total(), Long.MAX_VALUE);
        due("back", d.x().back(), 8);
        due("nothing is left", d.x().total(), 0);
    }
}
