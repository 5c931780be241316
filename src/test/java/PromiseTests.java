/** Each promise of the document by itself: ordinary inputs, the edges it names, wrong inputs. */
public final class PromiseTests {
  private static final int MIN = Integer.MIN_VALUE;
  private static final int MAX = Integer.MAX_VALUE;
  private static final int NONE = -1, OFF = -2, UNEVEN = -3, KEY = -4, POOR = -5, FULL = -6;
  private static int wrong = 0;

  private static void due(String what, int got, int want) {
    if (got != want) {
      wrong++;
      System.out.println(what + " answered " + got + ", due is " + want);
    }
  }

  private static void due(String what, boolean got, boolean want) {
    due(what, got ? 1 : 0, want ? 1 : 0);
  }

  // The document's hashes, written again for the tests.

  private static int mix(int a, int b) {
    int x = a * 16777619 + b;
    int y = (x ^ (x >>> 15)) * 739982445;
    return y ^ (y >>> 12);
  }

  private static int node(int l, int r) {
    return mix(mix(1, l), r);
  }

  private static int leafOf(int key, int... legs) {
    int h = mix(0, key);
    for (int j = 0; j < legs.length; j += 2) h = mix(h, 16 * legs[j + 1] + legs[j]);
    return h;
  }

  // Ledgers to begin with.

  /** Accounts 0 and 1 may owe as much as can be. */
  private static SealedLedger rich() {
    SealedLedger x = new SealedLedger();
    x.limit(0, 99999);
    x.limit(1, 99999);
    return x;
  }

  private static int commit(SealedLedger x, int key, int... legs) {
    for (int j = 0; j < legs.length; j += 2) x.leg(legs[j], legs[j + 1]);
    return x.commit(key);
  }

  /** Entry number n has key 100 + n and moves n + 1 from account 0 to account 2. */
  private static SealedLedger withEntries(int n) {
    SealedLedger x = rich();
    for (int i = 0; i < n; i++) commit(x, 100 + i, 0, -i - 1, 2, i + 1);
    return x;
  }

  private static int plainLeaf(int i) {
    return leafOf(100 + i, 0, -i - 1, 2, i + 1);
  }

  private static int plainHash(int from, int to) {
    if (to - from == 1) return plainLeaf(from);
    int k = Integer.highestOneBit(to - from - 1);
    return node(plainHash(from, from + k), plainHash(from + k, to));
  }

  private static SealedLedger syncedEntries(int n) {
    SealedLedger x = withEntries(n);
    x.sync();
    return x;
  }

  private static void powerOff(SealedLedger x) {
    x.fail(1);
    x.sync();
  }

  // The promises.

  private static void newObject() {
    SealedLedger x = new SealedLedger();
    due("1 on", x.on(), true);
    due("1 entries", x.entries(), 0);
    due("1 synced", x.synced(), 0);
    due("1 writes", x.writes(), 0);
    due("1 commit of an empty draft", x.commit(0), UNEVEN);
    due("1 take from an empty pad", x.take(), false);
    due("1 pad(0)", x.pad(0), 0);
    due("1 find(0)", x.find(0), NONE);
    due("1 head(0)", x.head(0), mix(2, 0));
    due("1 head(1)", x.head(1), 0);
    due("1 recover", x.recover(), NONE);
    SealedLedger blank = new SealedLedger();
    for (int k = 0; k < 512; k++) due("1 cell " + k, blank.cell(k), 0);
    SealedLedger poor = new SealedLedger();
    for (int account = 0; account < 8; account++) {
      poor.leg(account, -1);
      poor.leg((account + 1) % 8, 1);
      due("1 limit of " + account + " is 0", poor.commit(account), POOR);
      poor.drop();
    }
    SealedLedger failing = new SealedLedger();
    due("1 no failure is told", failing.sync(), 1);
  }

  private static void limit() {
    SealedLedger x = new SealedLedger();
    due("2 limit(0, 0)", x.limit(0, 0), true);
    due("2 limit(7, 99999)", x.limit(7, 99999), true);
    due("2 limit(0, 100000)", x.limit(0, 100000), false);
    due("2 limit(0, -1)", x.limit(0, -1), false);
    due("2 limit(8, 1)", x.limit(8, 1), false);
    due("2 limit(-1, 1)", x.limit(-1, 1), false);
    due("2 limit(MIN, MAX)", x.limit(MIN, MAX), false);
    due("2 limit(MAX, MIN)", x.limit(MAX, MIN), false);
    x.limit(3, 10);
    x.limit(3, 100000);
    x.limit(3, -1);
    due("2 a refused limit changes nothing", commit(x, 1, 3, -10, 4, 10), 0);
    due("2 below the limit", commit(x, 2, 3, -1, 4, 1), POOR);
    due("2 limit may sink below the debt", x.limit(3, 5), true);
    x.drop();
    due("2 a sunken limit binds a gift, too", commit(x, 3, 4, -4, 3, 4), POOR);
    x.drop();
    due("2 a gift that mends the debt", commit(x, 3, 4, -5, 3, 5), 1);
    powerOff(x);
    due("2 limit while off", x.limit(5, 77), true);
    due("2 wrong limit while off", x.limit(5, -77), false);
    x.recover();
    due("2 limits stay: at it", commit(x, 9, 5, -77, 4, 77), 0);
    due("2 limits stay: below", commit(x, 10, 5, -1, 4, 1), POOR);
  }

  private static void leg() {
    SealedLedger x = rich();
    due("3 leg(8, 1)", x.leg(8, 1), false);
    due("3 leg(-1, 1)", x.leg(-1, 1), false);
    due("3 leg(MAX, 1)", x.leg(MAX, 1), false);
    due("3 leg(MIN, 1)", x.leg(MIN, 1), false);
    due("3 leg(0, 10000)", x.leg(0, 10000), false);
    due("3 leg(0, -10000)", x.leg(0, -10000), false);
    due("3 leg(0, MAX)", x.leg(0, MAX), false);
    due("3 leg(0, MIN)", x.leg(0, MIN), false);
    due("3 refused legs are not in the draft", x.commit(1), UNEVEN);
    due("3 leg(0, -9999)", x.leg(0, -9999), true);
    due("3 leg(7, 9999)", x.leg(7, 9999), true);
    due("3 leg(7, 0)", x.leg(7, 0), true);
    due("3 leg(7, 0) as the 4th", x.leg(7, 0), true);
    due("3 a 5th leg", x.leg(7, 0), false);
    due("3 commit", x.commit(1), 0);
    due("3 legs in their order", x.leaf(0), leafOf(1, 0, -9999, 7, 9999, 7, 0, 7, 0));
    due("3 leg after a commit", x.leg(0, 1), true);
    powerOff(x);
    due("3 leg while off", x.leg(0, 1), false);
  }

  private static void drop() {
    SealedLedger x = rich();
    x.drop();
    for (int j = 0; j < 4; j++) x.leg(0, 1);
    x.drop();
    due("4 a dropped draft", x.commit(1), UNEVEN);
    for (int j = 0; j < 4; j++) due("4 leg after drop", x.leg(0, 0), true);
    due("4 nothing is left of the dropped legs", x.commit(1), 0);
    x.leg(0, 5);
    x.drop();
    due("4 drop leaves the entries", x.entries(), 1);
    powerOff(x);
    x.drop();
    due("4 drop while off leaves it off", x.on(), false);
  }

  private static void commitAnswers() {
    SealedLedger x = new SealedLedger();
    x.limit(0, 100);
    due("5 no legs", commit(x, 1), UNEVEN);
    due("5 one leg", commit(x, 1, 0, 0), UNEVEN);
    due("5 sum not 0", commit(x, 1, 1, 1), UNEVEN);
    due("5 the draft is kept", commit(x, 1, 0, -1), 0);
    due("5 an entry of three legs", x.leaf(0), leafOf(1, 0, 0, 1, 1, 0, -1));
    due("5 the draft is empty then", x.commit(1), UNEVEN);
    due("5 entry 0 again", commit(x, 1, 0, 0, 1, 1, 0, -1), 0);
    due("5 a second entry", commit(x, MIN, 0, -9, 1, 9), 1);
    due("5 the same again", commit(x, MIN, 0, -9, 1, 9), 1);
    due("5 none is added", x.entries(), 2);
    due("5 the draft is empty after the same, too", x.commit(MIN), UNEVEN);
    due("5 the same in another order", commit(x, MIN, 1, 9, 0, -9), KEY);
    due("5 after KEY the draft is kept", x.commit(2), 2);
    due("5 another amount", commit(x, MIN, 0, -8, 1, 8), KEY);
    x.drop();
    due("5 another account", commit(x, MIN, 0, -9, 2, 9), KEY);
    x.drop();
    due("5 fewer legs", commit(x, 1, 0, 0, 1, 0), KEY);
    x.drop();
    due("5 more legs", commit(x, 1, 0, 0, 1, 1, 0, -1, 0, 0), KEY);
    x.drop();
    due("5 UNEVEN before KEY", commit(x, 1, 0, 0, 1, 1), UNEVEN);
    x.drop();
    due("5 KEY before POOR", commit(x, 1, 5, -9, 1, 9), KEY);
    x.drop();
    due("5 poor by one", commit(x, 3, 0, -82, 2, 82), POOR);
    due("5 after POOR the draft is kept", x.leg(3, 0), true);
    x.drop();
    due("5 just at the limit", commit(x, 3, 0, -81, 2, 81), 3);
    x.limit(0, 0);
    due("5 the same again though poor by now", commit(x, 3, 0, -81, 2, 81), 3);
    due("5 an account with a leg of 0 is looked at", commit(x, 4, 0, 0, 2, 0), POOR);
    x.drop();
    due("5 an account without a leg is not", commit(x, 4, 2, -1, 3, 1), 4);
    due("5 all legs of an account together", commit(x, 5, 3, -5, 3, 5), 5);
    due("5 all legs of an account together, poor", commit(x, 6, 3, -2, 2, 1, 3, 1, 3, 0), 6);
    due("5 two legs that are too much together", commit(x, 7, 2, -50, 2, -50, 7, 100), POOR);
  }

  private static void commitOrder() {
    SealedLedger x = rich();
    for (int i = 0; i < 73; i++) due("5 entry " + i, commit(x, i, 0, -1, 1, 1), i);
    due("5 a 74th of the least entries", commit(x, 73, 0, -1, 1, 1), FULL);
    due("5 FULL changes nothing", x.entries(), 73);
    due("5 after FULL the draft is kept", x.leg(0, 0), true);
    x.drop();
    due("5 the same again though full", commit(x, 72, 0, -1, 1, 1), 72);
    due("5 KEY before FULL", commit(x, 72, 0, -2, 1, 2), KEY);
    x.drop();
    due("5 POOR before FULL", commit(x, 73, 5, -1, 1, 1), POOR);
    powerOff(x);
    due("5 OFF before UNEVEN", x.commit(72), OFF);
    due("5 still off", commit(x, 72, 0, -1, 1, 1), OFF);
  }

  private static void commitAtTheEnd() {
    SealedLedger x = rich();
    for (int i = 0; i < 44; i++) commit(x, i, 0, -1, 1, 1, 0, 0, 1, 0);
    for (int i = 44; i < 47; i++) commit(x, i, 0, -1, 1, 1);
    due("5 beyond cell 511 by two", commit(x, 47, 0, -1, 1, 1, 0, 0), FULL);
    x.drop();
    due("5 up to cell 511", commit(x, 47, 0, -1, 1, 1), 47);
    due("6 all 64 blocks", x.sync(), 64);
    due("6 block 63 again", x.sync(), 1);
    due("6 no more than 64 blocks", x.writes(), 65);
    due("24 a full disk ends with the seal", x.cell(511) != 0, true);
    due("5 a full log is FULL", commit(x, 48, 0, 0, 1, 0), FULL);
    powerOff(x);
    x.fail(1);
    due("8 no write behind a log that ends at cell 512", x.recover(), 48);
    due("8 so the told failure is still told", x.sync(), OFF);
    due("8 recover", x.recover(), 48);
    due("8 a full log syncs block 63", x.sync(), 1);
    due("25 writes", x.writes(), 66);
  }

  private static void sync() {
    SealedLedger x = rich();
    due("6 a sync without entries", x.sync(), 1);
    commit(x, 1, 0, -1, 1, 1);
    due("6 up to cell 7", x.sync(), 1);
    commit(x, 2, 0, -1, 1, 1, 0, 0);
    due("6 up to the end of block 1: block 2, too", x.sync(), 3);
    due("6 nothing new", x.sync(), 1);
    commit(x, 3, 0, -1, 1, 1, 0, 0, 0, 0);
    due("6 from block 2 on", x.sync(), 2);
    due("6 writes", x.writes(), 8);
    due("6 synced", x.synced(), 3);
    x.fail(1);
    due("6 power fails", x.sync(), OFF);
    due("6 while off", x.sync(), OFF);
    due("6 no write is done while off", x.writes(), 8);
    x.recover();
    due("6 after a recovery, from its end on", x.sync(), 1);
    commit(x, 4, 0, -1, 1, 1);
    due("6 from block 3 on", x.sync(), 2);
  }

  private static void syncThatFails() {
    SealedLedger x = withEntries(7);
    x.fail(4);
    due("6 power fails at the 4th write", x.sync(), OFF);
    due("6 three were done", x.writes(), 3);
    due("6 cell 22 is on the disk", x.cell(22), 103);
    due("6 cell 24 is not", x.cell(24), 0);
    due("6 off", x.on(), false);
    due("6 what stands whole on the disk", x.recover(), 3);
    due("6 the torn entry is gone from the disk", x.cell(22), 0);
    due("6 synced after recovery", x.synced(), 3);
  }

  private static void fail() {
    SealedLedger x = withEntries(6);
    due("7 fail(-1)", x.fail(-1), false);
    due("7 fail(41)", x.fail(41), false);
    due("7 fail(MIN)", x.fail(MIN), false);
    due("7 fail(MAX)", x.fail(MAX), false);
    due("7 fail(40)", x.fail(40), true);
    due("7 fail(1)", x.fail(1), true);
    due("7 fail(0)", x.fail(0), true);
    due("7 none is told any more", x.sync(), 6);
    x.fail(2);
    x.fail(41);
    x.fail(-1);
    due("7 at the 2nd write, not the 1st", x.sync(), 1);
    due("7 a refused one changes nothing", x.sync(), OFF);
    due("7 no failure is told after one", x.recover(), 6);
    due("7 nor later", x.sync(), 1);
    x.fail(2);
    x.sync();
    x.fail(3);
    due("7 in place of what was told: 1st", x.sync(), 1);
    due("7 in place of what was told: 2nd", x.sync(), 1);
    due("7 in place of what was told: 3rd", x.sync(), OFF);
    due("7 while off", x.fail(1), true);
    due("7 at the recovery's write", x.recover(), OFF);
    due("7 wrong while off", x.fail(41), false);
    x.fail(2);
    due("7 behind the recovery's write", x.recover(), 6);
    due("7 the recovery's write counted", x.sync(), OFF);
    x.recover();
    x.fail(40);
    for (int i = 1; i < 40; i++) due("7 write " + i + " of 40", x.sync(), 1);
    due("7 write 40 of 40", x.sync(), OFF);
    x.fail(1);
    x.fail(0);
    due("7 fail(0) while off", x.recover(), 6);
  }

  private static void recover() {
    SealedLedger x = syncedEntries(3);
    due("8 while on", x.recover(), NONE);
    due("8 NONE changes nothing", x.entries(), 3);
    commit(x, 7, 0, -1, 1, 1);
    x.leg(0, 1);
    due("8 while on, with unsynced entries", x.recover(), NONE);
    due("8 unsynced entries are still there", x.entries(), 4);
    due("8 the draft is still there", commit(x, 8, 1, -1), 4);
    due("8 not synced by it", x.synced(), 3);
    x.leg(0, 1);
    x.put(5);
    powerOff(x);
    due("8 off", x.on(), false);
    x.fail(1);
    int writes = x.writes();
    due("8 power fails again", x.recover(), OFF);
    due("8 off again", x.on(), false);
    due("8 no entries then", x.entries(), 0);
    due("8 not a write more", x.writes(), writes);
    due("8 the synced ones", x.recover(), 3);
    due("8 on", x.on(), true);
    due("8 one write", x.writes(), writes + 1);
    due("8 the draft is empty", x.commit(9), UNEVEN);
    due("8 entries", x.entries(), 3);
    due("8 synced", x.synced(), 3);
    due("8 the pad stays", x.pad(0), 5);
    due("8 head", x.head(3), plainHash(0, 3));
    due("8 find of a lost one", x.find(7), NONE);
    due("8 balance", x.balance(0, 3), -6);
    due("8 the next entry", commit(x, 7, 0, -3, 1, 3), 3);
    due("8 goes on behind the log", x.sync(), 2);
    due("8 with a seal after the one before it", x.cell(27),
        mix(mix(mix(mix(0, plainLeaf(0)), plainLeaf(1)), plainLeaf(2)), leafOf(7, 0, -3, 1, 3)));
  }

  private static void recoverOfNothing() {
    SealedLedger x = withEntries(2);
    powerOff(x);
    due("8 nothing was synced", x.recover(), 0);
    due("8 block 0 is written", x.writes(), 1);
    due("8 on without entries", x.entries(), 0);
    due("8 the first entry again", commit(x, 5, 0, -1, 1, 1), 0);
    due("8 sync from block 0", x.sync(), 1);
    due("8 its seal", x.cell(6), mix(0, leafOf(5, 0, -1, 1, 1)));
  }

  private static void on() {
    SealedLedger x = syncedEntries(5);
    due("9 on", x.on(), true);
    x.prove(1, 5);
    int first = x.pad(0);
    int head = x.head(5);
    powerOff(x);
    due("9 off", x.on(), false);
    due("9 entries", x.entries(), 0);
    due("9 synced", x.synced(), 0);
    due("9 balance", x.balance(2, 5), 0);
    due("9 statement", x.statement(2, 0, 5, false), 0);
    due("9 find", x.find(100), NONE);
    due("9 leaf", x.leaf(0), 0);
    due("9 head(5)", x.head(5), 0);
    due("9 head(0) is that of no entries", x.head(0), mix(2, 0));
    due("9 prove", x.prove(0, 1), NONE);
    due("9 extend", x.extend(1, 1), NONE);
    due("9 the pad is as it was", x.pad(0), first);
    due("9 included", x.included(plainLeaf(1), 1, 5, head), true);
    due("9 put", x.put(3), true);
    due("9 included with one more", x.included(plainLeaf(1), 1, 5, head), false);
    due("9 take", x.take(), true);
    due("9 cell", x.cell(1), 100);
    due("9 writes", x.writes(), 5);
    due("9 recover", x.recover(), 5);
    due("9 on again", x.on(), true);
  }

  private static void entriesAndSynced() {
    SealedLedger x = withEntries(3);
    due("10 entries", x.entries(), 3);
    due("11 none synced", x.synced(), 0);
    x.sync();
    due("11 three synced", x.synced(), 3);
    commit(x, 1, 0, -1, 1, 1);
    due("10 four entries", x.entries(), 4);
    due("11 still three synced", x.synced(), 3);
    commit(x, 2, 5, -1, 1, 1);
    due("10 a refused one is none", x.entries(), 4);
    x.sync();
    due("11 four synced", x.synced(), 4);
  }

  private static void balance() {
    SealedLedger x = withEntries(4);
    commit(x, 1, 2, -5, 3, 2, 2, 1, 4, 2);
    int[] after = {0, 1, 3, 6, 10, 6};
    for (int n = 0; n <= 5; n++) due("12 balance(2, " + n + ")", x.balance(2, n), after[n]);
    due("12 balance(0, 5)", x.balance(0, 5), -10);
    due("12 balance(3, 5)", x.balance(3, 5), 2);
    due("12 balance(7, 5)", x.balance(7, 5), 0);
    due("12 not 6 entries", x.balance(2, 6), 0);
    due("12 n MAX", x.balance(2, MAX), 0);
    due("12 n -1", x.balance(2, -1), 0);
    due("12 n MIN", x.balance(2, MIN), 0);
    due("12 account 8", x.balance(8, 5), 0);
    due("12 account -1", x.balance(-1, 5), 0);
    due("12 account MIN", x.balance(MIN, 5), 0);
  }

  private static void statement() {
    SealedLedger x = withEntries(4);
    commit(x, 1, 2, -5, 3, 2, 2, 1, 4, 2);
    due("13 all, how many", x.statement(2, 0, 5, false), 6);
    due("13 all, sum", x.statement(2, 0, 5, true), 6);
    due("13 two legs of one entry", x.statement(2, 4, 5, false), 2);
    due("13 their sum", x.statement(2, 4, 5, true), -4);
    due("13 in between", x.statement(2, 1, 3, false), 2);
    due("13 in between, sum", x.statement(2, 1, 3, true), 5);
    due("13 from before the first", x.statement(2, -9, 2, true), 3);
    due("13 to beyond the last", x.statement(2, 3, 99, true), 0);
    due("13 to beyond the last, how many", x.statement(2, 3, 99, false), 3);
    due("13 MIN to MAX", x.statement(0, MIN, MAX, true), -10);
    due("13 from = to", x.statement(2, 2, 2, false), 0);
    due("13 from > to", x.statement(2, 3, 1, false), 0);
    due("13 MAX to MIN", x.statement(2, MAX, MIN, false), 0);
    due("13 0 to MIN", x.statement(2, 0, MIN, false), 0);
    due("13 all behind the last", x.statement(2, 5, 9, false), 0);
    due("13 all before the first", x.statement(2, -5, 0, false), 0);
    due("13 account 8", x.statement(8, 0, 5, false), 0);
    due("13 account -1", x.statement(-1, 0, 5, true), 0);
  }

  private static void find() {
    SealedLedger x = withEntries(3);
    commit(x, 0, 0, -1, 1, 1);
    commit(x, MIN, 0, -1, 1, 1);
    commit(x, -1, 0, -1, 1, 1);
    due("14 find(100)", x.find(100), 0);
    due("14 find(102)", x.find(102), 2);
    due("14 find(0)", x.find(0), 3);
    due("14 find(MIN)", x.find(MIN), 4);
    due("14 find(-1)", x.find(-1), 5);
    due("14 find of another", x.find(103), NONE);
    due("14 an amount is no key", x.find(2), NONE);
  }

  private static void leaf() {
    SealedLedger x = withEntries(2);
    commit(x, -77, 7, 0, 1, -9999, 2, 9998, 7, 1);
    due("15 leaf(0)", x.leaf(0), plainLeaf(0));
    due("15 leaf(1), not synced", x.leaf(1), plainLeaf(1));
    due("15 leaf(2)", x.leaf(2), leafOf(-77, 7, 0, 1, -9999, 2, 9998, 7, 1));
    due("15 leaf(3)", x.leaf(3), 0);
    due("15 leaf(-1)", x.leaf(-1), 0);
    due("15 leaf(MAX)", x.leaf(MAX), 0);
    due("15 leaf(MIN)", x.leaf(MIN), 0);
    powerOff(x);
    x.recover();
    due("15 the leaf of a lost entry", x.leaf(0), 0);
  }

  private static void head() {
    SealedLedger x = withEntries(21);
    due("16 not synced", x.head(1), 0);
    due("16 head(0) is the hash of none", x.head(0), mix(2, 0));
    x.sync();
    for (int n = 1; n <= 21; n++) due("16 head(" + n + ")", x.head(n), plainHash(0, n));
    commit(x, 1, 0, -1, 1, 1);
    due("16 not so many are synced", x.head(22), 0);
    due("16 head(-1)", x.head(-1), 0);
    due("16 head(MIN)", x.head(MIN), 0);
    due("16 head(MAX)", x.head(MAX), 0);
    SealedLedger full = syncedEntries(73);
    due("16 head(73)", full.head(73), plainHash(0, 73));
    due("16 head(64)", full.head(64), plainHash(0, 64));
    due("16 head(65)", full.head(65), plainHash(0, 65));
  }

  private static void prove() {
    SealedLedger x = syncedEntries(7);
    x.put(1);
    due("17 in one", x.prove(0, 1), 0);
    due("17 the pad is empty then", x.take(), false);
    due("17 entry 4 of 7", x.prove(4, 7), 3);
    due("17 its first int", x.pad(0), plainLeaf(5));
    due("17 its second", x.pad(1), plainLeaf(6));
    due("17 its third", x.pad(2), plainHash(0, 4));
    due("17 entry 6 of 7", x.prove(6, 7), 2);
    due("17 its first int", x.pad(0), plainHash(4, 6));
    due("17 its second", x.pad(1), plainHash(0, 4));
    due("17 no third any more", x.pad(2), 0);
    commit(x, 1, 0, -1, 1, 1);
    int[][] refused = {{0, 8}, {7, 7}, {-1, 7}, {0, 0}, {-1, 0}, {-1, -1}, {-2, -1}, {0, -1},
        {MIN, MIN}, {MAX, MAX}, {MIN, MAX}, {MAX, 7}, {MIN, 7}, {0, MIN}, {0, MAX}};
    for (int[] r : refused) due("17 prove(" + r[0] + ", " + r[1] + ")", x.prove(r[0], r[1]), NONE);
    due("17 NONE leaves the pad", x.pad(0), plainHash(4, 6));
    due("17 NONE leaves the pad", x.pad(1), plainHash(0, 4));
  }

  private static void extend() {
    SealedLedger x = syncedEntries(7);
    x.put(1);
    due("18 1 with 1", x.extend(1, 1), 0);
    due("18 the pad is empty then", x.take(), false);
    due("18 6 with 7", x.extend(6, 7), 3);
    due("18 its first int", x.pad(0), plainHash(4, 6));
    due("18 its second", x.pad(1), plainLeaf(6));
    due("18 its third", x.pad(2), plainHash(0, 4));
    due("18 2 with 7", x.extend(2, 7), 2);
    due("18 its first int", x.pad(0), plainHash(2, 4));
    due("18 its second", x.pad(1), plainHash(4, 7));
    due("18 no third any more", x.pad(2), 0);
    due("18 3 with 4", x.extend(3, 4), 3);
    due("18 its first int", x.pad(0), plainLeaf(2));
    due("18 its second", x.pad(1), plainLeaf(3));
    due("18 its third", x.pad(2), plainHash(0, 2));
    commit(x, 1, 0, -1, 1, 1);
    int[][] refused = {{1, 8}, {8, 7}, {0, 7}, {-1, 7}, {0, 0}, {1, 0}, {-1, -1}, {MIN, MIN},
        {MAX, MAX}, {MIN, 7}, {MAX, 7}, {1, MIN}, {1, MAX}, {8, 8}};
    for (int[] r : refused) due("18 extend(" + r[0] + ", " + r[1] + ")", x.extend(r[0], r[1]), NONE);
    due("18 NONE leaves the pad", x.pad(0), plainLeaf(2));
    due("18 NONE leaves the pad", x.pad(2), plainHash(0, 2));
  }

  private static void putTakePad() {
    SealedLedger x = new SealedLedger();
    due("20 take from an empty pad", x.take(), false);
    for (int k = 0; k < 16; k++) due("19 put " + k, x.put(50 + k), true);
    due("19 a 17th", x.put(99), false);
    due("19 it is not there", x.pad(16), 0);
    for (int k = 0; k < 16; k++) due("21 pad(" + k + ")", x.pad(k), 50 + k);
    due("21 pad(-1)", x.pad(-1), 0);
    due("21 pad(MAX)", x.pad(MAX), 0);
    due("21 pad(MIN)", x.pad(MIN), 0);
    due("20 take", x.take(), true);
    due("21 a taken int", x.pad(15), 0);
    due("21 the one before it", x.pad(14), 64);
    due("19 put in its place", x.put(MIN), true);
    due("21 pad(15)", x.pad(15), MIN);
    for (int k = 0; k < 16; k++) due("20 take " + k, x.take(), true);
    due("20 take from the emptied pad", x.take(), false);
    due("21 pad(0) of the emptied pad", x.pad(0), 0);
  }

  private static void included() {
    SealedLedger x = syncedEntries(13);
    for (int n = 1; n <= 13; n++) {
      for (int i = 0; i < n; i += 3) {
        x.prove(i, n);
        String which = i + " in " + n;
        due("22 " + which, x.included(plainLeaf(i), i, n, plainHash(0, n)), true);
        due("22 another leaf, " + which, x.included(plainLeaf(i) + 1, i, n, plainHash(0, n)), false);
        due("22 another head, " + which, x.included(plainLeaf(i), i, n, plainHash(0, n) + 1), false);
      }
    }
    x.prove(5, 13);
    due("22 another number", x.included(plainLeaf(5), 4, 13, plainHash(0, 13)), false);
    x.put(0);
    due("22 one int too many", x.included(plainLeaf(5), 5, 13, plainHash(0, 13)), false);
    x.take();
    x.take();
    due("22 one int too few", x.included(plainLeaf(5), 5, 13, plainHash(0, 13)), false);
  }

  /** Pads put by hand, for more entries than a disk can hold. */
  private static void includedByHand() {
    SealedLedger x = new SealedLedger();
    due("22 one entry", x.included(5, 0, 1, 5), true);
    due("22 one entry, another head", x.included(5, 0, 1, 6), false);
    int[][] refused = {{0, 0}, {1, 1}, {-1, 1}, {0, 1001}, {0, -1}, {0, MIN}, {0, MAX}, {MIN, 1},
        {MAX, 1}, {MIN, MIN}, {-1, 0}};
    for (int[] r : refused) due("22 included(5, " + r[0] + ", " + r[1] + ", 5)", x.included(5, r[0], r[1], 5), false);
    for (int k = 0; k < 10; k++) x.put(k);
    int first = 77;
    for (int k = 0; k < 10; k++) first = node(first, k);
    due("22 the first of 1000", x.included(77, 0, 1000, first), true);
    due("22 the first of 1001", x.included(77, 0, 1001, first), false);
    due("22 the first of 512 has 9", x.included(77, 0, 512, first), false);
    due("22 the first of 513 has 10", x.included(77, 0, 513, first), true);
    x.take();
    // 999 is last of 1000 = 512 + 256 + 128 + 64 + 32 + 8, so 3 levels in the 8 and 5 above it.
    x.take();
    int last = 77;
    for (int k = 0; k < 8; k++) last = node(k, last);
    due("22 the last of 1000", x.included(77, 999, 1000, last), true);
    due("22 beyond the last of 1000", x.included(77, 1000, 1000, last), false);
    due("22 another of 1000", x.included(77, 998, 1000, last), false);
  }

  private static void consistent() {
    SealedLedger x = syncedEntries(13);
    for (int n = 1; n <= 13; n++) {
      for (int m = 1; m <= n; m += 2) {
        x.extend(m, n);
        String which = m + " with " + n;
        int old = plainHash(0, m);
        int now = plainHash(0, n);
        due("23 " + which, x.consistent(old, m, now, n), true);
        due("23 another old hash, " + which, x.consistent(old + 1, m, now, n), false);
        due("23 another head, " + which, x.consistent(old, m, now + 1, n), false);
      }
    }
    int old = plainHash(0, 6);
    int now = plainHash(0, 13);
    x.extend(6, 13);
    due("23 another m", x.consistent(old, 5, now, 13), false);
    x.put(0);
    due("23 one int too many", x.consistent(old, 6, now, 13), false);
    x.take();
    x.take();
    due("23 one int too few", x.consistent(old, 6, now, 13), false);
  }

  private static void consistentByHand() {
    SealedLedger x = new SealedLedger();
    due("23 m = n", x.consistent(4, 1000, 4, 1000), true);
    due("23 m = n, two hashes", x.consistent(4, 1000, 5, 1000), false);
    due("23 m = n = 1001", x.consistent(4, 1001, 4, 1001), false);
    int[][] refused = {{0, 0}, {0, 1}, {2, 1}, {-1, 1}, {-1, -1}, {MIN, MIN}, {MAX, MAX}, {1, 0}, {MIN, 1}};
    for (int[] r : refused) due("23 consistent(4, " + r[0] + ", 4, " + r[1] + ")", x.consistent(4, r[0], 4, r[1]), false);
    due("23 an empty pad for 1 with 2", x.consistent(4, 1, 4, 2), false);
    x.put(9);
    due("23 m = n with an int", x.consistent(4, 3, 4, 3), false);
    due("23 512 with 1000", x.consistent(4, 512, node(4, 9), 1000), true);
    due("23 512 with 1000, another old hash", x.consistent(5, 512, node(4, 9), 1000), false);
    due("23 512 with 1001", x.consistent(4, 512, node(4, 9), 1001), false);
    due("23 one int for 3 with 4", x.consistent(4, 3, node(4, 9), 4), false);
    x.put(8);
    x.put(7);
    // 3 with 4: the hash of the third, that of the fourth, that of the first two.
    due("23 3 with 4", x.consistent(node(7, 9), 3, node(7, node(9, 8)), 4), true);
    due("23 3 with 4, the old hash is not the pad's", x.consistent(9, 3, node(7, node(9, 8)), 4), false);
  }

  private static void cellsAndWrites() {
    SealedLedger x = rich();
    commit(x, -5, 0, -300, 7, 300);
    commit(x, 6, 0, -1, 1, 3, 2, -2, 3, 0);
    x.limit(2, 2);
    int number = commit(x, 6);
    due("5 the draft was kept while poor", number, 1);
    due("24 nothing is on the disk before a sync", x.cell(0), 0);
    due("25 no writes yet", x.writes(), 0);
    due("6 sync", x.sync(), 3);
    int seal = mix(0, leafOf(-5, 0, -300, 7, 300));
    int[] cells = {2, -5, 0, -300, 7, 300, seal, 4, 6, 0, -1, 1, 3, 2, -2, 3, 0,
        mix(seal, leafOf(6, 0, -1, 1, 3, 2, -2, 3, 0)), 0, 0};
    for (int k = 0; k < cells.length; k++) due("24 cell(" + k + ")", x.cell(k), cells[k]);
    due("24 cell(511)", x.cell(511), 0);
    due("24 cell(512)", x.cell(512), 0);
    due("24 cell(-1)", x.cell(-1), 0);
    due("24 cell(MAX)", x.cell(MAX), 0);
    due("24 cell(MIN)", x.cell(MIN), 0);
    due("25 three writes", x.writes(), 3);
    x.fail(1);
    x.sync();
    due("25 a failed write is not done", x.writes(), 3);
    x.recover();
    due("25 the recovery's write", x.writes(), 4);
  }

  public static void main(String[] args) {
    newObject();
    limit();
    leg();
    drop();
    commitAnswers();
    commitOrder();
    commitAtTheEnd();
    sync();
    syncThatFails();
    fail();
    recover();
    recoverOfNothing();
    on();
    entriesAndSynced();
    balance();
    statement();
    find();
    leaf();
    head();
    prove();
    extend();
    putTakePad();
    included();
    includedByHand();
    consistent();
    consistentByHand();
    cellsAndWrites();
    System.out.println(wrong == 0 ? "all answers are as due" : wrong + " answers are not as due");
    if (wrong != 0) System.exit(1);
  }
}
