import java.math.BigInteger;

/**
 * A test of its own for each sentence of the document's 'Terms' that names a boundary. What a sound
 * entry is, where the cells of two logs are mixed, has its tests in StaleBlockTests.
 */
public final class TermBoundaryTests {
  private static final int MIN = Integer.MIN_VALUE;
  private static final int MAX = Integer.MAX_VALUE;
  private static final int OFF = -2, UNEVEN = -3, POOR = -5;
  private static final BigInteger WRAP = BigInteger.ONE.shiftLeft(32);
  private static int wrong = 0;
  private static int tests = 0;
  private static String sentence = "";

  private static void test(String words, Runnable body) {
    tests++;
    sentence = words;
    try {
      body.run();
    } catch (RuntimeException | StackOverflowError thrown) {
      wrong++;
      System.out.println("[" + sentence + "] a call threw " + thrown);
    }
  }

  private static void due(String what, int got, int want) {
    if (got != want) {
      wrong++;
      System.out.println("[" + sentence + "] " + what + " answered " + got + ", due is " + want);
    }
  }

  private static void due(String what, boolean got, boolean want) {
    due(what, got ? 1 : 0, want ? 1 : 0);
  }

  // The document's hashes, reckoned with whole numbers, so that each wrap is seen.

  private static BigInteger whole(int i) {
    return BigInteger.valueOf(i);
  }

  private static int mix(int a, int b) {
    BigInteger x = whole(a).multiply(whole(16777619)).add(whole(b)).mod(WRAP);
    BigInteger y = x.xor(x.shiftRight(15)).multiply(whole(739982445)).mod(WRAP);
    return y.xor(y.shiftRight(12)).intValue();
  }

  private static int node(int l, int r) {
    return mix(mix(1, l), r);
  }

  private static int leafOf(int key, int... legs) {
    int h = mix(0, key);
    for (int j = 0; j < legs.length; j += 2) h = mix(h, 16 * legs[j + 1] + legs[j]);
    return h;
  }

  // Ledgers to begin with.

  private static SealedLedger rich() {
    SealedLedger x = new SealedLedger();
    x.limit(0, 99999);
    return x;
  }

  private static int commit(SealedLedger x, int key, int... legs) {
    for (int j = 0; j < legs.length; j += 2) x.leg(legs[j], legs[j + 1]);
    return x.commit(key);
  }

  /** Entries of 2, 3 or 4 legs, so of 7, 9 or 11 cells; entry n of all of them has the key n. */
  private static void add(SealedLedger x, int entries, int legs) {
    for (int i = 0; i < entries; i++) {
      x.leg(0, -1);
      x.leg(1, 1);
      for (int j = 2; j < legs; j++) x.leg(1, 0);
      x.commit(x.entries());
    }
  }

  private static SealedLedger withEntries(int entries) {
    SealedLedger x = rich();
    add(x, entries, 2);
    return x;
  }

  private static int leafOfAdded(int i) {
    return leafOf(i, 0, -1, 1, 1);
  }

  private static int sealOfAdded(int i) {
    int seal = 0;
    for (int j = 0; j <= i; j++) seal = mix(seal, leafOfAdded(j));
    return seal;
  }

  /** The splits of the document's tree, written out by hand for the numbers that are used here. */
  private static int splitOf(int n) {
    return n == 2 ? 1 : n <= 4 ? 2 : n <= 8 ? 4 : n <= 16 ? 8 : n <= 32 ? 16 : n <= 64 ? 32 : 64;
  }

  private static int hashOfAdded(int from, int to) {
    if (to - from == 1) return leafOfAdded(from);
    int k = splitOf(to - from);
    return node(hashOfAdded(from, from + k), hashOfAdded(from + k, to));
  }

  private static void powerOff(SealedLedger x) {
    x.fail(1);
    x.sync();
  }

  private static SealedLedger withPad(int... ints) {
    SealedLedger x = new SealedLedger();
    for (int h : ints) x.put(h);
    return x;
  }

  /** 43 entries of 11 cells and four of 7: the log ends at cell 501, an entry of 11 fills the disk. */
  private static SealedLedger fullDisk() {
    SealedLedger x = rich();
    add(x, 43, 4);
    add(x, 4, 2);
    x.leg(0, 0);
    x.leg(0, 0);
    x.leg(0, 0);
    x.leg(0, 0);
    due("the entry that fills the disk", x.commit(47), 47);
    return x;
  }

  // An object's calls, arithmetic.

  private static void use(SealedLedger x, int calls) {
    for (int i = 0; i < calls; i++) x.on();
  }

  private static void lastCall() {
    SealedLedger committing = rich();
    use(committing, 508);
    committing.leg(0, -1);
    committing.leg(1, 1);
    due("commit as call 512", committing.commit(5), 0);
    SealedLedger syncing = withEntries(2);
    use(syncing, 512 - 1 - 2 * 4 - 1);
    due("sync as call 512", syncing.sync(), 2);
    SealedLedger recovering = withEntries(2);
    recovering.sync();
    powerOff(recovering);
    use(recovering, 512 - 1 - 2 * 4 - 3 - 1);
    due("recover as call 512", recovering.recover(), 2);
    SealedLedger proving = withEntries(2);
    proving.sync();
    use(proving, 512 - 1 - 2 * 4 - 1 - 1);
    due("prove as call 512", proving.prove(0, 2), 1);
    SealedLedger writing = new SealedLedger();
    for (int i = 0; i < 511; i++) writing.sync();
    due("writes as call 512", writing.writes(), 511);
  }

  private static void arithmeticWraps() {
    int[] keys = {MIN, MAX, -1, 1, 128, 256, -65536, 0x5bd1e995, 0x9e3779b9};
    SealedLedger x = rich();
    for (int i = 0; i < keys.length; i++) {
      due("commit(" + keys[i] + ")", commit(x, keys[i], 0, -9999, 7, 9999), i);
      due("leaf(" + i + ")", x.leaf(i), leafOf(keys[i], 0, -9999, 7, 9999));
    }
    int[] ints = {MIN, MAX, -1, 0, 1, 0x40000000, 0xc0000000};
    for (int l : ints) {
      for (int r : ints) {
        due("the node of " + l + " and " + r, withPad(r).included(l, 0, 2, node(l, r)), true);
        due("the node of " + l + " and " + r + ", from the right", withPad(l).included(r, 1, 2, node(l, r)), true);
      }
    }
  }

  // Entries.

  private static void numbersBeginAt0() {
    SealedLedger x = rich();
    due("a refused commit", x.commit(9), UNEVEN);
    due("the first entry", commit(x, 9, 0, -1, 1, 1), 0);
    due("a poor one", commit(x, 8, 2, -1, 1, 1), POOR);
    x.drop();
    due("the second entry", commit(x, 7, 0, -1, 1, 1), 1);
    due("find of the first", x.find(9), 0);
    due("find of the second", x.find(7), 1);
  }

  private static void keysAreAnyInts() {
    int[] keys = {MIN, MAX, 0, -1, -2, -3, -4, -5, -6, 1};
    SealedLedger x = rich();
    for (int i = 0; i < keys.length; i++) due("commit(" + keys[i] + ")", commit(x, keys[i], 0, -1, 1, 1), i);
    x.sync();
    for (int i = 0; i < keys.length; i++) {
      due("find(" + keys[i] + ")", x.find(keys[i]), i);
      due("its cell", x.cell(7 * i + 1), keys[i]);
    }
    powerOff(x);
    due("all of them recovered", x.recover(), keys.length);
  }

  private static void twoToFourLegs() {
    for (int legs = 0; legs <= 5; legs++) {
      SealedLedger x = rich();
      for (int j = 0; j < legs; j++) due("leg " + j, x.leg(0, 0), j < 4);
      due("an entry of " + legs + " legs", x.commit(1), legs < 2 ? UNEVEN : 0);
      x.sync();
      due("its cell 0", x.cell(0), legs < 2 ? 0 : Math.min(legs, 4));
    }
  }

  private static void accountsAre0To7() {
    for (int account = -2; account <= 9; account++) {
      SealedLedger x = new SealedLedger();
      boolean there = account >= 0 && account <= 7;
      due("a leg of account " + account, x.leg(account, 0), there);
      due("a limit of account " + account, x.limit(account, 1), there);
    }
  }

  private static void amountsAreUpTo9999() {
    int[] amounts = {-10000, -9999, -9998, 9998, 9999, 10000};
    for (int amount : amounts) {
      due("a leg of " + amount, new SealedLedger().leg(0, amount), amount != -10000 && amount != 10000);
    }
    SealedLedger x = rich();
    due("the greatest amounts", commit(x, 1, 0, -9999, 1, 9999), 0);
    due("what went", x.balance(0, 1), -9999);
    due("what came", x.balance(1, 1), 9999);
  }

  private static void amountsAddUpTo0() {
    int[] sums = {-1, 0, 1};
    for (int sum : sums) {
      SealedLedger x = rich();
      due("amounts of sum " + sum, commit(x, 1, 0, -5, 1, 3, 2, 1, 3, 1 + sum), sum == 0 ? 0 : UNEVEN);
    }
  }

  private static void limitsAre0AtFirst() {
    for (int account = 0; account < 8; account++) {
      SealedLedger x = new SealedLedger();
      int other = (account + 3) % 8;
      due("account " + account + " owes 1", commit(x, 1, account, -1, other, 1), POOR);
      x.drop();
      due("account " + account + " owes 0", commit(x, 1, account, 0, other, 0), 0);
    }
  }

  private static void leafOfAmountsBelow0() {
    SealedLedger x = new SealedLedger();
    x.limit(7, 99999);
    x.limit(0, 99999);
    int[] amounts = {-1, -2, -9998, -9999};
    for (int i = 0; i < amounts.length; i++) {
      commit(x, i, 7, amounts[i], 0, -amounts[i]);
      int h = mix(mix(mix(0, i), 7 - 16 * -amounts[i]), 16 * -amounts[i]);
      due("the leaf with " + amounts[i], x.leaf(i), h);
    }
    due("-1 of account 7 is -9", x.leaf(0), mix(mix(mix(0, 0), -9), 16));
  }

  // Hashes and seals.

  private static void hashOfNone() {
    SealedLedger x = new SealedLedger();
    due("head(0) of no entries", x.head(0), mix(2, 0));
    add(x, 1, 2);
    x.sync();
    due("head(0) of more", x.head(0), mix(2, 0));
  }

  private static void hashOfOne() {
    SealedLedger x = withEntries(2);
    x.sync();
    due("head(1)", x.head(1), leafOfAdded(0));
  }

  private static void hashOfMore() {
    SealedLedger x = withEntries(73);
    x.sync();
    for (int n = 2; n <= 73; n++) due("head(" + n + ")", x.head(n), hashOfAdded(0, n));
    int two = node(leafOfAdded(0), leafOfAdded(1));
    due("k is 1 of 2", x.head(2), two);
    due("k is 2 of 3", x.head(3), node(two, leafOfAdded(2)));
    due("k is 2 of 4, not 4", x.head(4), node(two, node(leafOfAdded(2), leafOfAdded(3))));
    due("k is 4 of 5", x.head(5), node(x.head(4), leafOfAdded(4)));
  }

  private static void sealBefore0() {
    SealedLedger x = withEntries(2);
    x.sync();
    due("the seal of entry 0", x.cell(6), mix(0, leafOfAdded(0)));
    due("the seal of entry 1", x.cell(13), mix(mix(0, leafOfAdded(0)), leafOfAdded(1)));
  }

  // The disk and the log.

  private static void cells512() {
    SealedLedger first = new SealedLedger();
    for (int k = 0; k < 512; k++) due("cell(" + k + ") at first", first.cell(k), 0);
    SealedLedger x = fullDisk();
    x.sync();
    due("cell(0)", x.cell(0), 4);
    due("cell(501) begins the last entry", x.cell(501), 4);
    due("cell(511) is its seal", x.cell(511) != 0, true);
    due("there is no cell(512)", x.cell(512), 0);
    due("there is no cell(-1)", x.cell(-1), 0);
  }

  private static void blocksOf8() {
    SealedLedger x = fullDisk();
    due("64 blocks", x.sync(), 64);
    SealedLedger torn = withEntries(3);
    torn.fail(2);
    torn.sync();
    due("cell 7 is in block 0", torn.cell(7), 2);
    due("cell 8 is not", torn.cell(8), 0);
    due("it would be the key 1", torn.recover(), 1);
  }

  private static void logBeginsAtCell0() {
    SealedLedger x = withEntries(2);
    x.sync();
    int[] cells = {2, 0, 0, -1, 1, 1, sealOfAdded(0), 2, 1, 0, -1, 1, 1, sealOfAdded(1)};
    for (int k = 0; k < cells.length; k++) due("cell(" + k + ")", x.cell(k), cells[k]);
  }

  private static void cells0BehindTheLog() {
    SealedLedger x = withEntries(1);
    x.sync();
    for (int k = 7; k < 16; k++) due("cell(" + k + ")", x.cell(k), 0);
  }

  private static void logEndsBehindItsLastEntry() {
    SealedLedger x = rich();
    due("a log that ends at cell 0", x.sync(), 1);
    add(x, 1, 2);
    due("at cell 7, the last of block 0", x.sync(), 1);
    SealedLedger even = rich();
    add(even, 1, 2);
    add(even, 1, 3);
    due("at cell 16, the first of block 2", even.sync(), 3);
    SealedLedger short1 = rich();
    add(short1, 2, 2);
    due("at cell 14, in block 1", short1.sync(), 2);
    SealedLedger long1 = rich();
    add(long1, 1, 2);
    add(long1, 1, 4);
    due("at cell 18, in block 2", long1.sync(), 3);
  }

  // Sync.

  private static void neverSynced() {
    due("no entries", new SealedLedger().sync(), 1);
    due("from block 0 to block 2", withEntries(3).sync(), 3);
    SealedLedger x = withEntries(3);
    powerOff(x);
    due("a failed sync is none", x.recover(), 0);
    add(x, 3, 2);
    due("from block 0 to block 2 again", x.sync(), 3);
  }

  private static void fromTheBlockOfTheLastSync() {
    SealedLedger x = rich();
    add(x, 1, 2);
    add(x, 1, 3);
    x.sync();
    due("block 2 alone", x.sync(), 1);
    add(x, 1, 2);
    due("block 2 alone, now with an entry", x.sync(), 1);
    due("cell(16)", x.cell(16), 2);
    add(x, 1, 2);
    due("blocks 2 and 3", x.sync(), 2);
    due("cell(23)", x.cell(23), 2);
    due("writes", x.writes(), 7);
  }

  private static void block63() {
    SealedLedger x = rich();
    add(x, 43, 4);
    add(x, 4, 2);
    due("the log ends at cell 501 in block 62", x.sync(), 63);
    add(x, 1, 4);
    due("now at cell 512: blocks 62 and 63", x.sync(), 2);
    due("block 63 again", x.sync(), 1);
    due("and again", x.sync(), 1);
    due("writes", x.writes(), 67);
    SealedLedger less = withEntries(73);
    due("the log ends at cell 511 in block 63", less.sync(), 64);
    due("block 63 again", less.sync(), 1);
  }

  private static void writesAreInOrder() {
    for (int at = 1; at <= 4; at++) {
      SealedLedger x = withEntries(4);
      x.fail(at);
      due("power fails at write " + at, x.sync(), OFF);
      for (int block = 0; block < 4; block++) {
        boolean there = x.cell(8 * block + 2) != 0 || x.cell(8 * block + 3) != 0;
        due("block " + block + " is on the disk", there, block < at - 1);
      }
      due("the entries before write " + at, x.recover(), 8 * (at - 1) / 7);
    }
  }

  private static void allAreSyncedThen() {
    SealedLedger x = withEntries(73);
    due("none before", x.synced(), 0);
    x.sync();
    due("all then", x.synced(), 73);
    SealedLedger none = new SealedLedger();
    none.sync();
    due("none of none", none.synced(), 0);
  }

  // Power.

  private static void failedWriteIsNotDone() {
    SealedLedger x = withEntries(1);
    powerOff(x);
    for (int k = 0; k < 8; k++) due("cell(" + k + ")", x.cell(k), 0);
    due("writes", x.writes(), 0);
  }

  private static void nothingAfterIt() {
    SealedLedger x = withEntries(5);
    x.fail(2);
    due("sync", x.sync(), OFF);
    due("writes", x.writes(), 1);
    for (int k = 8; k < 40; k++) due("cell(" + k + ")", x.cell(k), 0);
    due("synced", x.synced(), 0);
    due("recovered", x.recover(), 1);
  }

  private static void machineIsOff() {
    SealedLedger x = withEntries(1);
    x.fail(2);
    x.sync();
    due("on before the write that was told", x.on(), true);
    x.sync();
    due("on behind it", x.on(), false);
  }

  private static void noFailureIsToldAnyMore() {
    SealedLedger x = withEntries(1);
    x.fail(1);
    x.sync();
    due("recover", x.recover(), 0);
    for (int i = 0; i < 50; i++) due("sync", x.sync(), 1);
  }

  private static void draftIsEmptyThen() {
    for (int legs = 1; legs <= 4; legs++) {
      SealedLedger x = rich();
      for (int j = 0; j < legs; j++) x.leg(0, 0);
      powerOff(x);
      x.recover();
      due("a draft of " + legs + " legs", x.commit(1), UNEVEN);
      for (int j = 0; j < 4; j++) due("leg " + j, x.leg(0, 0), true);
    }
    SealedLedger again = rich();
    powerOff(again);
    again.fail(1);
    again.recover();
    again.recover();
    due("when power fails at the recovery", again.commit(1), UNEVEN);
  }

  // Recovery.

  private static void soundAtTheEdges() {
    SealedLedger x = new SealedLedger();
    x.limit(0, 99999);
    x.limit(7, 99999);
    due("2 legs", commit(x, 1, 0, -9999, 7, 9999), 0);
    due("3 legs", commit(x, 2, 7, -9999, 0, 9999, 7, 0), 1);
    due("4 legs", commit(x, MIN, 0, -9999, 0, -9999, 7, 9999, 7, 9999), 2);
    due("another of 4", commit(x, MAX, 7, -9999, 0, 9999, 7, -9999, 0, 9999), 3);
    x.sync();
    powerOff(x);
    due("all are sound", x.recover(), 4);
    due("the legs of account 0", x.statement(0, 0, 4, false), 6);
    due("the legs of account 7", x.statement(7, 0, 4, false), 7);
  }

  private static void soundUpToCell511() {
    SealedLedger full = fullDisk();
    full.sync();
    powerOff(full);
    due("the last cell of the last entry is 511", full.recover(), 48);
    SealedLedger less = withEntries(73);
    less.sync();
    powerOff(less);
    due("the last cell of the last entry is 510", less.recover(), 73);
  }

  private static void noSoundEntry() {
    SealedLedger x = withEntries(1);
    powerOff(x);
    due("an empty disk", x.recover(), 0);
    due("entries", x.entries(), 0);
    SealedLedger torn = rich();
    add(torn, 1, 3);
    torn.fail(2);
    torn.sync();
    due("the first entry is torn", torn.recover(), 0);
    due("it is gone from the disk", torn.cell(0), 0);
  }

  private static void recoveredAreSynced() {
    SealedLedger x = withEntries(5);
    x.fail(5);
    x.sync();
    due("four of five are whole", x.recover(), 4);
    due("synced", x.synced(), 4);
    due("head(4)", x.head(4), hashOfAdded(0, 4));
    due("head(5)", x.head(5), 0);
    due("prove(3, 4)", x.prove(3, 4), 2);
    add(x, 2, 2);
    due("from block 3, where it ended, to block 5", x.sync(), 3);
  }

  private static void cells0BehindTheRecoveredLog() {
    SealedLedger x = withEntries(2);
    x.fail(2);
    x.sync();
    due("cell(7) of the torn entry", x.cell(7), 2);
    due("recover", x.recover(), 1);
    due("cell(7) then", x.cell(7), 0);
    SealedLedger inMemory = rich();
    add(inMemory, 2, 2);
    inMemory.sync();
    add(inMemory, 1, 4);
    inMemory.fail(3);
    inMemory.sync();
    due("cell(17) of the torn entry", inMemory.cell(17), -1);
    due("recover", inMemory.recover(), 2);
    due("cell(17) is old, but not of the log", inMemory.cell(17), -1);
    commit(inMemory, 50, 0, 0, 0, 0);
    due("an entry up to cell 20", inMemory.sync(), 2);
    for (int k = 21; k < 24; k++) due("cell(" + k + ") behind it", inMemory.cell(k), 0);
  }

  private static void writeOfTheBlockWhereItEnds() {
    int[][] logs = {{0, 0}, {1, 0}, {2, 0}, {1, 1}, {73, 0}};
    for (int[] log : logs) {
      SealedLedger x = rich();
      add(x, log[0], 2);
      add(x, log[1], 3);
      x.sync();
      powerOff(x);
      int writes = x.writes();
      x.recover();
      due("a log of " + (7 * log[0] + 9 * log[1]) + " cells: writes", x.writes(), writes + 1);
    }
    SealedLedger even = rich();
    add(even, 1, 2);
    add(even, 2, 3);
    even.fail(3);
    even.sync();
    due("a log that ends at cell 16, behind it an entry that was not written", even.recover(), 2);
    due("the last cell of block 1", even.cell(15) != 0, true);
    due("sync of block 2 alone", even.sync(), 1);
  }

  private static void noWriteAtCell512() {
    SealedLedger x = fullDisk();
    x.sync();
    powerOff(x);
    x.fail(1);
    due("recover", x.recover(), 48);
    due("writes", x.writes(), 64);
    due("the failure is told still", x.sync(), OFF);
    SealedLedger less = withEntries(73);
    less.sync();
    powerOff(less);
    less.fail(1);
    due("a log that ends at cell 511 is written", less.recover(), OFF);
  }

  private static void powerMayFailAtIt() {
    SealedLedger x = withEntries(2);
    x.fail(2);
    x.sync();
    x.fail(1);
    due("recover", x.recover(), OFF);
    due("on", x.on(), false);
    due("the write was not done: cell(7)", x.cell(7), 2);
    due("entries", x.entries(), 0);
    due("synced", x.synced(), 0);
    due("leg", x.leg(0, 1), false);
    due("the next recovery", x.recover(), 1);
    due("its write was done: cell(7)", x.cell(7), 0);
  }

  private static void limitsStay() {
    SealedLedger x = new SealedLedger();
    x.limit(3, 99999);
    x.limit(4, 1);
    powerOff(x);
    x.recover();
    due("a limit of 99999", commit(x, 1, 3, -9999, 5, 9999), 0);
    due("a limit of 1", commit(x, 2, 4, -1, 5, 1), 1);
    due("below a limit of 1", commit(x, 3, 4, -1, 5, 1), POOR);
    x.drop();
    due("a limit of 0", commit(x, 3, 6, -1, 5, 1), POOR);
  }

  // Proofs.

  private static void padOf16() {
    SealedLedger x = new SealedLedger();
    for (int k = 0; k < 16; k++) due("put " + k, x.put(k + 1), true);
    due("put 16", x.put(17), false);
    due("pad(15)", x.pad(15), 16);
    due("pad(16)", x.pad(16), 0);
  }

  private static void inclusionInOne() {
    SealedLedger x = withEntries(3);
    x.sync();
    x.put(1);
    due("prove(0, 1)", x.prove(0, 1), 0);
    due("pad(0)", x.pad(0), 0);
    due("take", x.take(), false);
  }

  private static void inclusionAtK() {
    SealedLedger x = withEntries(7);
    x.sync();
    due("entry 3 of 7, before k", x.prove(3, 7), 3);
    due("pad(0)", x.pad(0), leafOfAdded(2));
    due("pad(1)", x.pad(1), hashOfAdded(0, 2));
    due("pad(2)", x.pad(2), hashOfAdded(4, 7));
    due("entry 4 of 7, at k", x.prove(4, 7), 3);
    due("pad(0)", x.pad(0), leafOfAdded(5));
    due("pad(1)", x.pad(1), leafOfAdded(6));
    due("pad(2)", x.pad(2), hashOfAdded(0, 4));
    due("entry 0 of 2", x.prove(0, 2), 1);
    due("pad(0)", x.pad(0), leafOfAdded(1));
    due("entry 1 of 2", x.prove(1, 2), 1);
    due("pad(0)", x.pad(0), leafOfAdded(0));
  }

  private static void longestInclusion() {
    SealedLedger x = withEntries(73);
    x.sync();
    due("entry 0 of 73", x.prove(0, 73), 7);
    due("its last int", x.pad(6), hashOfAdded(64, 73));
    due("entry 72 of 73", x.prove(72, 73), 2);
    due("its ints", x.pad(0), hashOfAdded(64, 72));
    due("its ints", x.pad(1), hashOfAdded(0, 64));
    due("entry 63 of 64", x.prove(63, 64), 6);
    due("entry 64 of 65", x.prove(64, 65), 1);
  }

  private static void showsOfOne() {
    due("an empty pad", withPad().included(5, 0, 1, 5), true);
    due("an empty pad, another leaf", withPad().included(6, 0, 1, 5), false);
    due("a pad of one", withPad(5).included(5, 0, 1, 5), false);
    due("a pad of one, the node", withPad(7).included(5, 0, 1, node(5, 7)), false);
    due("a pad of one, the other node", withPad(7).included(5, 0, 1, node(7, 5)), false);
    due("a full pad", withPad(new int[16]).included(5, 0, 1, 5), false);
  }

  private static void showsOfMoreNeedsInts() {
    due("an empty pad, 0 of 2", withPad().included(5, 0, 2, 5), false);
    due("an empty pad, 1 of 2", withPad().included(5, 1, 2, 5), false);
    due("an empty pad, 999 of 1000", withPad().included(5, 999, 1000, 5), false);
    due("one int, 0 of 3", withPad(7).included(5, 0, 3, node(5, 7)), false);
    due("one int, 2 of 3", withPad(7).included(5, 2, 3, node(7, 5)), true);
  }

  private static void showsByTheSideOfK() {
    due("0 of 2", withPad(7).included(5, 0, 2, node(5, 7)), true);
    due("0 of 2, the other node", withPad(7).included(5, 0, 2, node(7, 5)), false);
    due("1 of 2", withPad(7).included(5, 1, 2, node(7, 5)), true);
    due("1 of 2, the other node", withPad(7).included(5, 1, 2, node(5, 7)), false);
    due("1 of 3, before k", withPad(7, 8).included(5, 1, 3, node(node(7, 5), 8)), true);
    due("2 of 3, at k", withPad(8).included(5, 2, 3, node(8, 5)), true);
    due("2 of 3, as if before k", withPad(7, 8).included(5, 2, 3, node(node(7, 5), 8)), false);
    due("3 of 4, behind k", withPad(7, 8).included(5, 3, 4, node(8, node(7, 5))), true);
    due("2 of 4, at k, then before", withPad(7, 8).included(5, 2, 4, node(8, node(5, 7))), true);
    due("2 of 4, as if behind k twice", withPad(7, 8).included(5, 2, 4, node(8, node(7, 5))), false);
    due("4 of 7, at k, then before twice", withPad(7, 8, 9).included(5, 4, 7, node(9, node(node(5, 7), 8))), true);
    due("6 of 7, behind k, then at k", withPad(8, 9).included(5, 6, 7, node(9, node(8, 5))), true);
  }

  /** Entry 0 of 513 to 1000 has ten ints; with each number of ints, the head that it would give. */
  private static void showsNothingOtherwise() {
    SealedLedger x = new SealedLedger();
    int above = 5;
    for (int ints = 0; ints <= 16; ints++) {
      due(ints + " ints, 0 of 513", x.included(5, 0, 513, above), ints == 10);
      due(ints + " ints, 0 of 1000", x.included(5, 0, 1000, above), ints == 10);
      due(ints + " ints, 0 of 512", x.included(5, 0, 512, above), ints == 9);
      due(ints + " ints, 0 of 1", x.included(5, 0, 1, above), ints == 0);
      x.put(ints);
      above = node(above, ints);
    }
  }

  private static void consistencyOfAllIsNothing() {
    SealedLedger x = withEntries(5);
    x.sync();
    for (int n = 1; n <= 5; n++) {
      x.put(1);
      due("extend(" + n + ", " + n + ")", x.extend(n, n), 0);
      due("take", x.take(), false);
    }
  }

  private static void consistencyWithARowNotOwn() {
    SealedLedger x = withEntries(3);
    x.sync();
    due("extend(2, 3), own to the end", x.extend(2, 3), 1);
    due("pad(0)", x.pad(0), leafOfAdded(2));
    add(x, 1, 2);
    x.sync();
    due("extend(3, 4), the third is not own", x.extend(3, 4), 3);
    due("pad(0) is its hash", x.pad(0), leafOfAdded(2));
    due("pad(1)", x.pad(1), leafOfAdded(3));
    due("pad(2)", x.pad(2), hashOfAdded(0, 2));
  }

  private static void consistencyAtK() {
    SealedLedger x = withEntries(7);
    x.sync();
    due("extend(4, 7), m is k", x.extend(4, 7), 1);
    due("pad(0)", x.pad(0), hashOfAdded(4, 7));
    due("extend(5, 7), m is k + 1", x.extend(5, 7), 4);
    due("pad(0)", x.pad(0), leafOfAdded(4));
    due("pad(1)", x.pad(1), leafOfAdded(5));
    due("pad(2)", x.pad(2), leafOfAdded(6));
    due("pad(3)", x.pad(3), hashOfAdded(0, 4));
    due("extend(3, 7), m is k - 1", x.extend(3, 7), 4);
    due("pad(0)", x.pad(0), leafOfAdded(2));
    due("pad(1)", x.pad(1), leafOfAdded(3));
    due("pad(2)", x.pad(2), hashOfAdded(0, 2));
    due("pad(3)", x.pad(3), hashOfAdded(4, 7));
    due("extend(1, 2), m is k", x.extend(1, 2), 1);
    due("pad(0)", x.pad(0), leafOfAdded(1));
  }

  private static void showsOfAllOwn() {
    due("an empty pad, 1 of 1", withPad().consistent(5, 1, 5, 1), true);
    due("an empty pad, 1000 of 1000", withPad().consistent(5, 1000, 5, 1000), true);
    due("an empty pad, two hashes", withPad().consistent(5, 3, 6, 3), false);
    due("a pad of one", withPad(5).consistent(5, 3, 5, 3), false);
    due("a pad of one, 1 of 1", withPad(5).consistent(5, 1, 5, 1), false);
  }

  /** 3 of 4: the third is the whole of a row that is not own; 6 of 7: the fifth and sixth are. */
  private static void showsOfAllNotOwn() {
    due("three ints", withPad(9, 8, 7).consistent(node(7, 9), 3, node(7, node(9, 8)), 4), true);
    due("two ints, none for the row", withPad(8, 7).consistent(node(7, 9), 3, node(7, node(9, 8)), 4), false);
    due("two ints, the old hash for the row", withPad(8, 7).consistent(5, 3, node(7, node(5, 8)), 4), false);
    due("four ints, two for the row", withPad(9, 9, 8, 7).consistent(node(7, 9), 3, node(7, node(9, 8)), 4), false);
    due("a row of two", withPad(9, 8, 7).consistent(node(7, 9), 6, node(7, node(9, 8)), 7), true);
    due("a row of two, two ints", withPad(8, 7).consistent(5, 6, node(7, node(5, 8)), 7), false);
    due("the old hash is not the row's", withPad(9, 8, 7).consistent(9, 3, node(7, node(9, 8)), 4), false);
  }

  private static void showsOlderAtK() {
    due("1 of 2, m is k", withPad(7).consistent(5, 1, node(5, 7), 2), true);
    due("1 of 2, the other node", withPad(7).consistent(5, 1, node(7, 5), 2), false);
    due("2 of 3, m is k", withPad(7).consistent(5, 2, node(5, 7), 3), true);
    due("2 of 4, m is k", withPad(7).consistent(5, 2, node(5, 7), 4), true);
    due("3 of 4, m is k + 1", withPad(7).consistent(5, 3, node(5, 7), 4), false);
    due("512 of 1000, m is k", withPad(7).consistent(5, 512, node(5, 7), 1000), true);
    due("511 of 1000, m is k - 1", withPad(7).consistent(5, 511, node(5, 7), 1000), false);
    due("1 of 3", withPad(7, 8).consistent(5, 1, node(node(5, 7), 8), 3), true);
    SealedLedger before = withPad(6, 7, 8, 9);
    due("3 of 8, before k, then behind k", before.consistent(node(8, 6), 3, node(node(8, node(6, 7)), 9), 8), true);
    due("3 of 8, another old hash", before.consistent(node(9, 6), 3, node(node(8, node(6, 7)), 9), 8), false);
    due("5 of 8, behind k, then before", before.consistent(node(9, 6), 5, node(9, node(node(6, 7), 8)), 8), true);
  }

  private static void showsOlderNeedsInts() {
    due("1 of 2", withPad().consistent(5, 1, 5, 2), false);
    due("2 of 3", withPad().consistent(5, 2, 5, 3), false);
    due("3 of 4", withPad().consistent(5, 3, 5, 4), false);
    due("999 of 1000", withPad().consistent(5, 999, 5, 1000), false);
  }

  /** The first of 513 to 1000 has ten ints; with each number of ints, the head that it would give. */
  private static void showsNoOlderOtherwise() {
    SealedLedger x = new SealedLedger();
    int above = 5;
    for (int ints = 0; ints <= 16; ints++) {
      due(ints + " ints, 1 of 513", x.consistent(5, 1, above, 513), ints == 10);
      due(ints + " ints, 1 of 1000", x.consistent(5, 1, above, 1000), ints == 10);
      due(ints + " ints, 1 of 512", x.consistent(5, 1, above, 512), ints == 9);
      due(ints + " ints, 7 of 7", x.consistent(5, 7, above, 7), ints == 0);
      x.put(ints);
      above = node(above, ints);
    }
  }

  /** Of 999 in 1000 stay 7 in 8 behind rows of 512, 256, 128, 64 and 32, then 3 in 4, 1 in 2. */
  private static void showsOlderOfTheLongest() {
    SealedLedger x = withPad(1, 2, 3, 4, 11, 12, 13, 14, 15);
    int old = node(4, node(3, 1));
    int head = node(4, node(3, node(1, 2)));
    int turned = node(node(3, 1), 4);
    for (int k = 11; k <= 15; k++) {
      old = node(k, old);
      head = node(k, head);
      turned = node(k, turned);
    }
    due("999 of 1000", x.consistent(old, 999, head, 1000), true);
    due("999 of 1000, with a node turned", x.consistent(turned, 999, head, 1000), false);
    due("999 of 999", x.consistent(old, 999, old, 999), false);
    x.put(16);
    due("an int too many", x.consistent(old, 999, head, 1000), false);
  }

  private static void disk() {
    test("THE DISK has 512 CELLS (ints, 0 at first)", TermBoundaryTests::cells512);
    test("in 64 BLOCKS of 8", TermBoundaryTests::blocksOf8);
    test("THE LOG: the entries one behind the other from cell 0 on", TermBoundaryTests::logBeginsAtCell0);
    test("behind the last one are cells 0", TermBoundaryTests::cells0BehindTheLog);
    test("The log ends at the first cell behind its last entry", TermBoundaryTests::logEndsBehindItsLastEntry);
    test("SYNC: (block 0, if never)", TermBoundaryTests::neverSynced);
    test("SYNC: from that in which the log ended when entries were SYNCED last",
        TermBoundaryTests::fromTheBlockOfTheLastSync);
    test("SYNC: (each of both block 63, if the log ends at cell 512)", TermBoundaryTests::block63);
    test("SYNC: in order, a WRITE", TermBoundaryTests::writesAreInOrder);
    test("SYNC: then all entries are synced", TermBoundaryTests::allAreSyncedThen);
  }

  private static void power() {
    test("POWER: this write is not done", TermBoundaryTests::failedWriteIsNotDone);
    test("POWER: nor anything after it", TermBoundaryTests::nothingAfterIt);
    test("POWER: the machine is OFF", TermBoundaryTests::machineIsOff);
    test("POWER: no failure is told any more", TermBoundaryTests::noFailureIsToldAnyMore);
    test("POWER: the draft is empty", TermBoundaryTests::draftIsEmptyThen);
    test("SOUND: 2 to 4 legs, the accounts 0 .. 7, the amounts -9999 .. 9999", TermBoundaryTests::soundAtTheEdges);
    test("SOUND: all of it before cell 512", TermBoundaryTests::soundUpToCell511);
    test("RECOVERY: as long as one is SOUND", TermBoundaryTests::noSoundEntry);
    test("RECOVERY: they are synced", TermBoundaryTests::recoveredAreSynced);
    test("RECOVERY: with cells 0 behind it", TermBoundaryTests::cells0BehindTheRecoveredLog);
    test("RECOVERY: a WRITE of the block in which it ends", TermBoundaryTests::writeOfTheBlockWhereItEnds);
    test("RECOVERY: if the log does not end at cell 512", TermBoundaryTests::noWriteAtCell512);
    test("RECOVERY: (power may fail at it)", TermBoundaryTests::powerMayFailAtIt);
    test("RECOVERY: Limits stay", TermBoundaryTests::limitsStay);
  }

  private static void proofs() {
    test("a PAD, a list of at most 16 ints", TermBoundaryTests::padOf16);
    test("INCLUSION: for n = 1 nothing", TermBoundaryTests::inclusionInOne);
    test("INCLUSION: if i is less than k", TermBoundaryTests::inclusionAtK);
    test("INCLUSION of the first and the last", TermBoundaryTests::longestInclusion);
    test("SHOWS a hash: for n = 1, when it is empty, the leaf", TermBoundaryTests::showsOfOne);
    test("SHOWS a hash: otherwise, when it is not empty", TermBoundaryTests::showsOfMoreNeedsInts);
    test("SHOWS a hash: (if i is less than k)", TermBoundaryTests::showsByTheSideOfK);
    test("SHOWS a hash: Otherwise it shows nothing", TermBoundaryTests::showsNothingOtherwise);
    test("CONSISTENCY: for m = n: nothing if own", TermBoundaryTests::consistencyOfAllIsNothing);
    test("CONSISTENCY: otherwise the hash of the row", TermBoundaryTests::consistencyWithARowNotOwn);
    test("CONSISTENCY: if m is at most k", TermBoundaryTests::consistencyAtK);
    test("SHOWS two hashes: if own, when it is empty, the old hash twice", TermBoundaryTests::showsOfAllOwn);
    test("SHOWS two hashes: if not, when it has one int, this twice", TermBoundaryTests::showsOfAllNotOwn);
    test("SHOWS two hashes: if m is at most k", TermBoundaryTests::showsOlderAtK);
    test("SHOWS two hashes: Otherwise, when it is not empty", TermBoundaryTests::showsOlderNeedsInts);
    test("SHOWS two hashes: Otherwise it shows nothing", TermBoundaryTests::showsNoOlderOtherwise);
    test("SHOWS two hashes: if m is greater, of the most entries", TermBoundaryTests::showsOlderOfTheLongest);
  }

  public static void main(String[] args) {
    test("An object is used for at most 512 calls", TermBoundaryTests::lastCall);
    test("All arithmetic is that of ints and wraps", TermBoundaryTests::arithmeticWraps);
    test("ENTRIES have numbers 0, 1, ..", TermBoundaryTests::numbersBeginAt0);
    test("a KEY (an int)", TermBoundaryTests::keysAreAnyInts);
    test("2 to 4 LEGS", TermBoundaryTests::twoToFourLegs);
    test("an ACCOUNT 0 .. 7", TermBoundaryTests::accountsAre0To7);
    test("an AMOUNT -9999 .. 9999", TermBoundaryTests::amountsAreUpTo9999);
    test("the amounts of an entry add up to 0", TermBoundaryTests::amountsAddUpTo0);
    test("a LIMIT, 0 .. 99999, 0 at first", TermBoundaryTests::limitsAre0AtFirst);
    test("reckoned so for amounts below 0, too", TermBoundaryTests::leafOfAmountsBelow0);
    test("The HASH: of none MIX(2, 0)", TermBoundaryTests::hashOfNone);
    test("The HASH: of one its leaf", TermBoundaryTests::hashOfOne);
    test("The HASH: of n > 1, k the greatest power of 2 that is less than n", TermBoundaryTests::hashOfMore);
    test("The SEAL: (0 for entry 0)", TermBoundaryTests::sealBefore0);
    disk();
    power();
    proofs();
    System.out.println(tests + " sentences");
    System.out.println(wrong == 0 ? "all answers are as due" : wrong + " answers are not as due");
    if (wrong != 0) System.exit(1);
  }
}
