/**
 * A test of its own for each sentence on recoveries that find old cells behind a torn write. Keys
 * are chosen so that the seal which an entry of new and old cells needs is the very int that stands
 * there: then only the other rules of a sound entry can tell it from a true one.
 *
 * An account or amount out of its range has no test here, for no run of calls brings it where only
 * that rule could tell: old cells are those of a torn entry of 4 legs in cell 6 or 7 of a block,
 * where the next entry begins, too, so its accounts are read as accounts and its amounts as amounts.
 * Only behind an entry of 2 legs is the last amount read as an account, with cells 0 behind it, and
 * for no amount but 0 is that entry's seal 0.
 */
public final class StaleBlockTests {
  private static final int FACTOR = 16777619;
  private static int wrong = 0;
  private static int tests = 0;
  private static String sentence = "";

  private static void test(String words, Runnable body) {
    tests++;
    sentence = words;
    try {
      body.run();
    } catch (RuntimeException | StackOverflowError thrown) {
      wrong++;
      System.out.println("[" + sentence + "] a call threw " + thrown);
    }
  }

  private static void due(String what, int got, int want) {
    if (got != want) {
      wrong++;
      System.out.println("[" + sentence + "] " + what + " answered " + got + ", due is " + want);
    }
  }

  private static int mix(int a, int b) {
    int x = a * FACTOR + b;
    int y = (x ^ (x >>> 15)) * 739982445;
    return y ^ (y >>> 12);
  }

  private static int inverse(int odd) {
    int inverse = odd;
    for (int step = 0; step < 5; step++) inverse *= 2 - odd * inverse;
    return inverse;
  }

  private static int unshift(int shifted, int by) {
    int value = shifted;
    for (int step = 0; step < 32; step++) value = shifted ^ (value >>> by);
    return value;
  }

  /** The a * FACTOR + b of which MIX made this int. */
  private static int unmix(int mixed) {
    return unshift(unshift(mixed, 12) * inverse(739982445), 15);
  }

  private static int leafOf(int key, int... legs) {
    int h = mix(0, key);
    for (int j = 0; j < legs.length; j += 2) h = mix(h, 16 * legs[j + 1] + legs[j]);
    return h;
  }

  /** The key with which the legs have that seal behind the seal before. */
  private static int keyFor(int seal, int sealBefore, int... legs) {
    int h = unmix(seal) - sealBefore * FACTOR;
    for (int j = legs.length - 2; j >= 0; j -= 2) {
      h = (unmix(h) - (16 * legs[j + 1] + legs[j])) * inverse(FACTOR);
    }
    return unmix(h);
  }

  private static int commit(SealedLedger x, int key, int... legs) {
    for (int j = 0; j < legs.length; j += 2) x.leg(legs[j], legs[j + 1]);
    return x.commit(key);
  }

  private static SealedLedger rich() {
    SealedLedger x = new SealedLedger();
    for (int account = 0; account < 8; account++) x.limit(account, 99999);
    return x;
  }

  /** The entry is on the disk but for its cells from the third block on; then it is lost. */
  private static void tear(SealedLedger x, int before, int key, int... legs) {
    due("the entry to be torn", commit(x, key, legs), before);
    x.fail(3);
    due("the torn sync", x.sync(), SealedLedger.OFF);
    due("the recovery before the torn entry", x.recover(), before);
  }

  /** The entry's cells of the first block are on the disk, and behind them the old ones. */
  private static void cover(SealedLedger x, int before, int key, int... legs) {
    due("the entry that covers", commit(x, key, legs), before);
    x.fail(2);
    due("the sync of one block", x.sync(), SealedLedger.OFF);
  }

  /** A log of one entry ends in the last cell of block 0: only how many legs is new, the key is old. */
  private static SealedLedger oldKey(int[] read, int[] torn, int coveringLegs) {
    SealedLedger x = rich();
    commit(x, 0, 0, -5, 1, 5);
    x.sync();
    int seal = torn[read.length];
    int key = keyFor(seal, mix(0, leafOf(0, 0, -5, 1, 5)), read);
    tear(x, 1, key, torn);
    cover(x, 1, 2, new int[2 * coveringLegs]);
    return x;
  }

  private static void soundOfOldAndNew() {
    SealedLedger x = oldKey(new int[] {3, -70, 4, 70}, new int[] {3, -70, 4, 70, 6, 9, 5, -9}, 2);
    due("two legs of the torn four", x.recover(), 2);
    due("balance of 3", x.balance(3, 2), -70);
    due("balance of 4", x.balance(4, 2), 70);
    due("balance of 6", x.balance(6, 2), 0);
    due("the seal is 6, but no leg of 6", x.statement(6, 0, 2, false), 0);
    due("the cell of its seal", x.cell(13), 6);
    due("behind it is 0", x.cell(14), 0);
    due("behind it is 0", x.cell(15), 0);
    due("the covering entry is lost", x.find(2), SealedLedger.NONE);
    due("find by the old key", x.find(x.cell(8)), 1);
    due("the log goes on", commit(x, 2, 0, 0, 0, 0), 2);
    due("from block 1 to block 2", x.sync(), 2);
  }

  private static void soundOfThree() {
    SealedLedger x = oldKey(new int[] {3, -70, 4, 60, 2, 10}, new int[] {3, -70, 4, 60, 2, 10, 5, 0}, 3);
    due("three legs of the torn four", x.recover(), 2);
    due("the log ends at block 2", x.sync(), 1);
    due("which is the next", commit(x, 2, 0, 0, 0, 0), 2);
    due("still in block 2", x.sync(), 1);
  }

  private static void sumIsLookedAt() {
    SealedLedger x = oldKey(new int[] {3, -70, 4, 69}, new int[] {3, -70, 4, 69, 6, 9, 5, -8}, 2);
    due("a right seal, but the sum is not 0", x.recover(), 1);
    due("the block is written without it", x.cell(7), 0);
    due("the next block is old still", x.cell(9), 3);
  }

  private static void sealIsLookedAt() {
    SealedLedger x = rich();
    commit(x, 1, 0, 0, 0, 0);
    x.sync();
    tear(x, 1, 55, 3, -70, 4, 70, 6, 9, 5, -9);
    cover(x, 1, 2, 0, 0, 0, 0);
    due("all is right but the seal", x.recover(), 1);
  }

  /**
   * MIX(0, 0) is 0, so behind a seal 0 any number of legs of 0 with key 0 has a right seal 0. The
   * third leg of the torn entry is read as the seal 0, and as that number.
   */
  private static SealedLedger zerosBehind(int legs) {
    return oldKey(new int[] {3, -70, 4, 70}, new int[] {3, -70, 4, 70, 0, legs, 0, -legs}, 2);
  }

  private static void tooFewLegs() {
    int[] numbers = {1, 0, -1, -2, -9999};
    for (int legs : numbers) due(legs + " legs of 0", zerosBehind(legs).recover(), 2);
  }

  private static void twoToFourLegs() {
    for (int legs = 2; legs <= 4; legs++) due(legs + " legs of 0", zerosBehind(legs).recover(), 3);
  }

  private static void tooManyLegs() {
    int[] numbers = {5, 6, 7, 100, 9999};
    for (int legs : numbers) due(legs + " legs of 0", zerosBehind(legs).recover(), 2);
  }

  private static void twoOfOneKey() {
    SealedLedger x = zerosBehind(3);
    due("an entry of old and unwritten cells", x.recover(), 3);
    due("its leaf", x.leaf(2), 0);
    due("its legs", x.statement(0, 2, 3, false), 3);
    due("the first of key 0", x.find(0), 0);
    due("the legs of the second of key 0", commit(x, 0, 0, 0, 0, 0, 0, 0), SealedLedger.KEY);
    x.drop();
    due("the legs of the first of key 0", commit(x, 0, 0, -5, 1, 5), 0);
    due("none is added", x.entries(), 3);
    due("the next entry", commit(x, 2, 0, -5, 1, 5), 3);
    due("its place", x.sync(), 2);
    due("its cells behind those of 9", x.cell(23), 2);
  }

  private static void leastOfOneKey() {
    SealedLedger x = zerosBehind(2);
    due("three entries, the first and the last of key 0", x.recover(), 3);
    due("find(0)", x.find(0), 0);
    due("the last has no other key", x.cell(15), 0);
    due("the first is not the last", x.leaf(0) != x.leaf(2) ? 1 : 0, 1);
  }

  /** The cells that were not written are 0 as they should be. */
  private static void tornButWhole() {
    SealedLedger x = rich();
    due("four legs of 0 with key 0", commit(x, 0, 0, 0, 0, 0, 0, 0, 0, 0), 0);
    x.fail(2);
    due("the torn sync", x.sync(), SealedLedger.OFF);
    due("all of it is there", x.recover(), 1);
    due("its legs", x.statement(0, 0, 1, false), 4);
    due("the sync begins in block 1", x.sync(), 1);
  }

  /** The cells behind the entry's legs, its seal 5 and a 0, look like one leg more. */
  private static void sealIsNoLeg() {
    SealedLedger x = rich();
    int key = keyFor(5, 0, 1, -3, 2, 3);
    due("an entry with the seal 5", commit(x, key, 1, -3, 2, 3), 0);
    due("a leg of 0 of account 5, too", commit(x, key, 1, -3, 2, 3, 5, 0), SealedLedger.KEY);
    x.drop();
    due("the same legs", commit(x, key, 1, -3, 2, 3), 0);
  }

  /** Two entries end in cell 14, so how many legs and the key are new, and the legs are old. */
  private static void oldLegs() {
    SealedLedger x = rich();
    commit(x, 1, 0, 0, 0, 0);
    commit(x, 2, 0, 0, 0, 0);
    x.sync();
    int before = mix(mix(0, leafOf(1, 0, 0, 0, 0)), leafOf(2, 0, 0, 0, 0));
    tear(x, 2, 55, 3, -70, 4, 70, 6, 9, 5, -9);
    int key = keyFor(6, before, 3, -70, 4, 70);
    cover(x, 2, key, 1, -1, 2, 1);
    due("the new key with the old legs", x.recover(), 3);
    due("find", x.find(key), 2);
    due("balance of 4", x.balance(4, 3), 70);
    due("the old legs again", commit(x, key, 3, -70, 4, 70), 2);
    due("the new legs", commit(x, key, 1, -1, 2, 1), SealedLedger.KEY);
  }

  /** An old amount is read as 4 legs of 0 behind a seal 0, and their seal would be cell 512. */
  private static void beyondTheDisk() {
    SealedLedger x = rich();
    int seal = 0;
    for (int i = 0; i < 45; i++) {
      commit(x, 1000 + i, 0, 0, 0, 0, 0, 0, 0, 0);
      seal = mix(seal, leafOf(1000 + i, 0, 0, 0, 0, 0, 0, 0, 0));
    }
    x.sync();
    tear(x, 45, keyFor(0, seal, 3, -70, 4, 70), 3, -70, 4, 70, 0, 4, 0, -4);
    cover(x, 45, 7, 0, 0, 0, 0);
    due("cell 502 is read as 4 legs", x.cell(502), 4);
    due("entries up to cell 501", x.recover(), 46);
    due("cell 502 then", x.cell(502), 0);
    due("room for a last one", commit(x, 8, 0, 0, 0, 0), 46);
    due("no room for one more", commit(x, 9, 0, 0, 0, 0), SealedLedger.FULL);
    due("blocks 62 and 63", x.sync(), 2);
  }

  public static void main(String[] args) {
    test("the inverse of MIX", () -> due("unmix", unmix(mix(12345, -678)), 12345 * FACTOR - 678));
    test("RECOVERY: as long as one is SOUND, of old and new cells", StaleBlockTests::soundOfOldAndNew);
    test("RECOVERY: as long as one is SOUND, of three legs", StaleBlockTests::soundOfThree);
    test("RECOVERY: as long as one is SOUND, of old legs", StaleBlockTests::oldLegs);
    test("RECOVERY: as long as one is SOUND, of cells 0", StaleBlockTests::tornButWhole);
    test("SOUND: 2 to 4 legs, too few", StaleBlockTests::tooFewLegs);
    test("SOUND: 2 to 4 legs", StaleBlockTests::twoToFourLegs);
    test("SOUND: 2 to 4 legs, too many", StaleBlockTests::tooManyLegs);
    test("SOUND: with sum 0", StaleBlockTests::sumIsLookedAt);
    test("SOUND: all of it before cell 512", StaleBlockTests::beyondTheDisk);
    test("SOUND: its seal is right", StaleBlockTests::sealIsLookedAt);
    test("5: KEY: other legs, the seal is none", StaleBlockTests::sealIsNoLeg);
    test("5: the first entry of that key (there may be more behind a recovery)", StaleBlockTests::twoOfOneKey);
    test("14: The least number of an entry with a key", StaleBlockTests::leastOfOneKey);
    System.out.println(tests + " sentences");
    System.out.println(wrong == 0 ? "all answers are as due" : wrong + " answers are not as due");
    if (wrong != 0) System.exit(1);
  }
}
