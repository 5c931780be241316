/**
 * A test of its own for each sentence of the promises 1 to 25 that names a boundary: too small, too
 * large, empty, full, a wrap-around, a refused call.
 */
public final class PromiseBoundaryTests {
  private static final int MIN = Integer.MIN_VALUE;
  private static final int MAX = Integer.MAX_VALUE;
  private static final int NONE = -1, OFF = -2, UNEVEN = -3, KEY = -4, POOR = -5, FULL = -6;
  private static final int[] NO_ACCOUNTS = {-1, 8, -8, 16, MIN, MAX};
  private static int wrong = 0;
  private static int tests = 0;
  private static String sentence = "";

  private static void test(String words, Runnable body) {
    tests++;
    sentence = words;
    try {
      body.run();
    } catch (RuntimeException | StackOverflowError thrown) {
      wrong++;
      System.out.println("[" + sentence + "] a call threw " + thrown);
    }
  }

  private static void due(String what, int got, int want) {
    if (got != want) {
      wrong++;
      System.out.println("[" + sentence + "] " + what + " answered " + got + ", due is " + want);
    }
  }

  private static void due(String what, boolean got, boolean want) {
    due(what, got ? 1 : 0, want ? 1 : 0);
  }

  private static int mix(int a, int b) {
    int x = a * 16777619 + b;
    int y = (x ^ (x >>> 15)) * 739982445;
    return y ^ (y >>> 12);
  }

  private static int node(int l, int r) {
    return mix(mix(1, l), r);
  }

  private static int leafOf(int key, int... legs) {
    int h = mix(0, key);
    for (int j = 0; j < legs.length; j += 2) h = mix(h, 16 * legs[j + 1] + legs[j]);
    return h;
  }

  // Ledgers to begin with.

  private static void legs(SealedLedger x, int... legs) {
    for (int j = 0; j < legs.length; j += 2) due("a leg of the draft", x.leg(legs[j], legs[j + 1]), true);
  }

  private static int commit(SealedLedger x, int key, int... legs) {
    legs(x, legs);
    return x.commit(key);
  }

  /** Account 0 may owe as much as can be. */
  private static SealedLedger rich() {
    SealedLedger x = new SealedLedger();
    x.limit(0, 99999);
    return x;
  }

  /** Entries with the keys from .. to - 1, each of so many legs that move 1 from account 0 to 1. */
  private static void add(SealedLedger x, int from, int to, int legs) {
    for (int key = from; key < to; key++) {
      x.leg(0, -1);
      x.leg(1, 1);
      for (int j = 2; j < legs; j++) x.leg(1, 0);
      x.commit(key);
    }
  }

  /** Entry i has the key i. */
  private static SealedLedger withEntries(int entries) {
    SealedLedger x = rich();
    add(x, 0, entries, 2);
    return x;
  }

  private static SealedLedger syncedEntries(int entries) {
    SealedLedger x = withEntries(entries);
    x.sync();
    return x;
  }

  private static int leafOfAdded(int i) {
    return leafOf(i, 0, -1, 1, 1);
  }

  private static int hashOfAdded(int from, int to) {
    if (to - from == 1) return leafOfAdded(from);
    int k = 1;
    while (2 * k < to - from) k *= 2;
    return node(hashOfAdded(from, from + k), hashOfAdded(from + k, to));
  }

  private static void powerOff(SealedLedger x) {
    x.fail(1);
    due("the sync at which power fails", x.sync(), OFF);
  }

  private static SealedLedger off() {
    SealedLedger x = syncedEntries(3);
    powerOff(x);
    return x;
  }

  private static SealedLedger withPad(int ints) {
    SealedLedger x = new SealedLedger();
    for (int k = 0; k < ints; k++) x.put(100 + k);
    return x;
  }

  /** Whether the limit of an account is just so much: it may owe that, and not one more. */
  private static void dueLimit(SealedLedger x, int account, int limit) {
    int other = (account + 1) % 8;
    due("one below the limit of " + account, commit(x, 501, account, -limit - 1, other, limit + 1), POOR);
    x.drop();
    due("just the limit of " + account, commit(x, 502, account, -limit, other, limit) >= 0, true);
  }

  // Promise 1.

  private static void newHasNoEntries() {
    SealedLedger x = new SealedLedger();
    due("entries", x.entries(), 0);
    due("synced", x.synced(), 0);
    due("find(0)", x.find(0), NONE);
    due("leaf(0)", x.leaf(0), 0);
    due("head(0)", x.head(0), mix(2, 0));
    due("head(1)", x.head(1), 0);
    due("balance(0, 0)", x.balance(0, 0), 0);
    due("balance(0, 1)", x.balance(0, 1), 0);
    due("statement", x.statement(0, MIN, MAX, false), 0);
    due("prove(0, 1)", x.prove(0, 1), NONE);
    due("extend(1, 1)", x.extend(1, 1), NONE);
  }

  private static void newHasAnEmptyDraft() {
    SealedLedger x = new SealedLedger();
    due("commit", x.commit(0), UNEVEN);
    for (int j = 0; j < 4; j++) due("leg " + j, x.leg(j, 0), true);
    due("commit of just these", x.commit(0), 0);
    due("its leaf", x.leaf(0), leafOf(0, 0, 0, 1, 0, 2, 0, 3, 0));
  }

  private static void newHasAnEmptyPad() {
    SealedLedger x = new SealedLedger();
    due("pad(0)", x.pad(0), 0);
    due("an empty pad shows the leaf", x.included(5, 0, 1, 5), true);
    due("take", x.take(), false);
    for (int k = 0; k < 16; k++) due("put " + k, x.put(k), true);
  }

  private static void newIsOn() {
    SealedLedger x = new SealedLedger();
    due("on", x.on(), true);
    due("recover", x.recover(), NONE);
    due("leg", x.leg(0, 0), true);
    due("sync, without a failure told", x.sync(), 1);
  }

  // Promise 2.

  private static void limitAtItsEnds() {
    SealedLedger least = new SealedLedger();
    least.limit(4, 7);
    due("limit(4, 0)", least.limit(4, 0), true);
    dueLimit(least, 4, 0);
    SealedLedger most = new SealedLedger();
    due("limit(7, 99999)", most.limit(7, 99999), true);
    for (int key = 0; key < 5; key++) commit(most, key, 7, -9999, 7, -9999, 0, 9999, 0, 9999);
    due("owed so far", most.balance(7, 5), -99990);
    due("99999 and one", commit(most, 9, 7, -10, 0, 10), POOR);
    most.drop();
    due("99999", commit(most, 9, 7, -9, 0, 9), 5);
  }

  private static void limitOfNoAccount() {
    for (int account : NO_ACCOUNTS) {
      SealedLedger x = new SealedLedger();
      due("limit(" + account + ", 5)", x.limit(account, 5), false);
      for (int other = 0; other < 8; other++) {
        due("then account " + other + " owes 1", commit(x, 1, other, -1, (other + 1) % 8, 1), POOR);
        x.drop();
      }
    }
  }

  private static void limitTooSmall() {
    int[] limits = {-1, -2, -99999, MIN};
    for (int l : limits) {
      SealedLedger x = new SealedLedger();
      x.limit(3, 10);
      due("limit(3, " + l + ")", x.limit(3, l), false);
      dueLimit(x, 3, 10);
    }
  }

  private static void limitTooLarge() {
    int[] limits = {100000, 100001, MAX};
    for (int l : limits) {
      SealedLedger x = new SealedLedger();
      x.limit(3, 10);
      due("limit(3, " + l + ")", x.limit(3, l), false);
      dueLimit(x, 3, 10);
    }
  }

  private static void limitAsOften() {
    SealedLedger x = new SealedLedger();
    due("limit", x.limit(0, 5), true);
    due("the same limit again", x.limit(0, 5), true);
    due("less", x.limit(0, 3), true);
    dueLimit(x, 0, 3);
    due("less than is owed", x.limit(0, 2), true);
    due("owed", x.balance(0, 1), -3);
    due("a leg of 0", commit(x, 7, 0, 0, 1, 0), POOR);
  }

  private static void limitWhileOff() {
    SealedLedger x = off();
    due("limit", x.limit(5, 9), true);
    due("limit of no account", x.limit(8, 9), false);
    due("limit too large", x.limit(5, 100000), false);
    x.recover();
    dueLimit(x, 5, 9);
  }

  // Promise 3.

  private static void legWhileOff() {
    SealedLedger x = off();
    due("leg", x.leg(0, 0), false);
    due("leg", x.leg(0, 0), false);
    x.recover();
    due("none is in the draft", x.commit(9), UNEVEN);
    due("leg behind the recovery", x.leg(0, 0), true);
  }

  private static void fifthLeg() {
    SealedLedger x = rich();
    legs(x, 0, -1, 1, 1, 2, 0);
    due("the fourth", x.leg(3, 0), true);
    due("the fifth", x.leg(4, 0), false);
    due("the fifth again", x.leg(0, 0), false);
    due("commit of four", x.commit(1), 0);
    due("their leaf", x.leaf(0), leafOf(1, 0, -1, 1, 1, 2, 0, 3, 0));
  }

  private static void legOfNoAccount() {
    SealedLedger x = rich();
    for (int account : NO_ACCOUNTS) due("leg(" + account + ", 0)", x.leg(account, 0), false);
    due("none is in the draft", x.commit(1), UNEVEN);
    due("leg(0, -1)", x.leg(0, -1), true);
    due("leg(7, 1)", x.leg(7, 1), true);
    due("commit of two", x.commit(1), 0);
    due("their leaf", x.leaf(0), leafOf(1, 0, -1, 7, 1));
  }

  private static void legAmountTooSmall() {
    SealedLedger x = rich();
    due("leg(0, -10000)", x.leg(0, -10000), false);
    due("leg(0, MIN)", x.leg(0, MIN), false);
    due("leg(0, -9999)", x.leg(0, -9999), true);
    due("leg(1, 9999)", x.leg(1, 9999), true);
    due("commit of two", x.commit(1), 0);
    due("balance", x.balance(0, 1), -9999);
  }

  private static void legAmountTooLarge() {
    SealedLedger x = rich();
    due("leg(1, 10000)", x.leg(1, 10000), false);
    due("leg(1, MAX)", x.leg(1, MAX), false);
    due("leg(1, 9999)", x.leg(1, 9999), true);
    due("leg(0, -9999)", x.leg(0, -9999), true);
    due("commit of two", x.commit(1), 0);
    due("balance", x.balance(1, 1), 9999);
  }

  // Promise 4.

  private static void dropOfNone() {
    SealedLedger x = rich();
    x.drop();
    due("commit", x.commit(1), UNEVEN);
    due("the next entry", commit(x, 1, 0, -1, 1, 1), 0);
    x.drop();
    due("entries", x.entries(), 1);
  }

  private static void dropOfAFullDraft() {
    SealedLedger x = rich();
    legs(x, 0, -1, 1, 1, 0, 0, 1, 0);
    x.drop();
    due("commit", x.commit(1), UNEVEN);
    legs(x, 2, 0, 3, 0, 4, 0, 5, 0);
    due("a draft of four others", x.commit(1), 0);
    due("its leaf", x.leaf(0), leafOf(1, 2, 0, 3, 0, 4, 0, 5, 0));
  }

  private static void dropWhileOff() {
    SealedLedger x = off();
    x.drop();
    due("on", x.on(), false);
    due("recover", x.recover(), 3);
  }

  // Promise 5.

  private static void commitNumbers() {
    SealedLedger x = rich();
    for (int i = 0; i < 73; i++) due("entry " + i, commit(x, 1000 - i, 0, -1, 1, 1), i);
  }

  private static void commitAgain() {
    SealedLedger x = withEntries(3);
    for (int i = 2; i >= 0; i--) due("entry " + i + " again", commit(x, i, 0, -1, 1, 1), i);
    due("none is added", x.entries(), 3);
    due("nor to the log", x.sync(), 3);
    due("nor to a balance", x.balance(1, 3), 3);
    SealedLedger four = rich();
    due("an entry of four", commit(four, 7, 0, -3, 1, 1, 1, 1, 2, 1), 0);
    due("the same four", commit(four, 7, 0, -3, 1, 1, 1, 1, 2, 1), 0);
  }

  private static void commitAgainThoughPoorOrFull() {
    SealedLedger poor = withEntries(2);
    poor.limit(0, 0);
    due("again, though poor", commit(poor, 1, 0, -1, 1, 1), 1);
    SealedLedger full = withEntries(73);
    due("again, though full", commit(full, 72, 0, -1, 1, 1), 72);
  }

  private static void draftIsEmptyAfterwards() {
    SealedLedger x = rich();
    commit(x, 1, 0, -1, 1, 1, 0, 0, 0, 0);
    due("after an entry", x.commit(2), UNEVEN);
    commit(x, 1, 0, -1, 1, 1, 0, 0, 0, 0);
    due("after the same again", x.commit(2), UNEVEN);
    for (int j = 0; j < 4; j++) due("leg " + j, x.leg(0, 0), true);
  }

  private static void commitWhileOff() {
    SealedLedger x = off();
    due("commit", x.commit(0), OFF);
    due("commit of a new key", x.commit(9), OFF);
    due("commit of an old key", x.commit(2), OFF);
    due("nothing is changed", x.recover(), 3);
    due("find", x.find(9), NONE);
  }

  private static void commitOfTooFewLegs() {
    SealedLedger x = rich();
    due("no leg", x.commit(1), UNEVEN);
    due("one leg", commit(x, 1, 0, 0), UNEVEN);
    due("the leg is kept", commit(x, 1, 1, 0), 0);
    due("its leaf", x.leaf(0), leafOf(1, 0, 0, 1, 0));
  }

  private static void commitOfAnotherSum() {
    SealedLedger x = rich();
    due("a sum of -1", commit(x, 1, 0, -6, 1, 5), UNEVEN);
    due("entries", x.entries(), 0);
    due("the legs are kept: a sum of 1", commit(x, 1, 2, 2), UNEVEN);
    due("and now 0", commit(x, 1, 0, -1), 0);
    due("its leaf", x.leaf(0), leafOf(1, 0, -6, 1, 5, 2, 2, 0, -1));
    due("all 9999", commit(x, 2, 0, 9999, 1, 9999, 2, 9999, 3, 9999), UNEVEN);
    x.drop();
    due("all -9999", commit(x, 2, 0, -9999, 1, -9999, 2, -9999, 3, -9999), UNEVEN);
  }

  private static void commitOfOtherLegs() {
    int[][] others = {
      {0, -3, 1, 3}, {0, -3, 1, 2, 2, 1, 3, 0}, {0, -3, 2, 1, 1, 2}, {1, 2, 0, -3, 2, 1},
      {0, -3, 1, 1, 2, 2}, {0, -3, 1, 2, 3, 1}, {4, -3, 1, 2, 2, 1}, {0, -2, 1, 1, 2, 1}
    };
    for (int[] other : others) {
      SealedLedger x = rich();
      commit(x, 7, 0, -3, 1, 2, 2, 1);
      due("legs that begin with account " + other[0], commit(x, 7, other), KEY);
      due("entries", x.entries(), 1);
      x.limit(4, 3);
      due("the draft is kept", x.commit(8), 1);
      due("its leaf", x.leaf(1), leafOf(8, other));
    }
  }

  /** The legs of one are the beginning of those of the other. */
  private static void commitOfMoreOrFewerLegs() {
    int[] two = {0, -3, 1, 3};
    int[] three = {0, -3, 1, 3, 2, 0};
    int[] four = {0, -3, 1, 3, 2, 0, 0, 0};
    int[][] rows = {two, three, four};
    for (int[] before : rows) {
      for (int[] now : rows) {
        SealedLedger x = rich();
        commit(x, 7, before);
        due(now.length / 2 + " legs behind " + before.length / 2, commit(x, 7, now), now == before ? 0 : KEY);
      }
    }
  }

  private static void commitOfThePoor() {
    SealedLedger x = new SealedLedger();
    x.limit(2, 10);
    due("below by one", commit(x, 1, 2, -11, 3, 11), POOR);
    due("entries", x.entries(), 0);
    due("find", x.find(1), NONE);
    x.limit(2, 11);
    due("the draft is kept, just at the limit", x.commit(1), 0);
    due("one more", commit(x, 2, 2, -1, 3, 1), POOR);
    x.drop();
    due("what was given may go back", commit(x, 2, 3, -11, 2, 11), 1);
    due("below 0 with a limit of 0", commit(x, 3, 3, -1, 2, 1), POOR);
  }

  private static void eachLegMayBePoor() {
    for (int at = 0; at < 4; at++) {
      SealedLedger x = rich();
      for (int j = 0; j < 4; j++) x.leg(j == at ? 5 : 0, j == at ? -1 : j == (at + 1) % 4 ? 1 : 0);
      due("leg " + at + " is of the poor account", x.commit(1), POOR);
    }
  }

  private static void legsOfAnAccountTogether() {
    SealedLedger x = rich();
    due("down and up again", commit(x, 1, 5, -9, 5, 9), 0);
    due("twice, one too much together", commit(x, 2, 0, -1, 5, 1), 1);
    due("twice, one too much together", commit(x, 3, 5, -1, 5, -1, 0, 2), POOR);
    x.drop();
    due("twice, just enough together", commit(x, 3, 5, -1, 5, -1, 5, 1, 0, 1), 2);
  }

  private static void onlyAccountsOfTheDraft() {
    SealedLedger x = withEntries(2);
    x.limit(0, 1);
    due("a leg of 0 of an account below its limit", commit(x, 7, 0, 0, 1, 0), POOR);
    x.drop();
    due("a gift that is too small", commit(x, 7, 1, 0, 0, 0), POOR);
    x.drop();
    due("no leg of it", commit(x, 7, 1, -1, 2, 1), 2);
    due("a gift that is great enough", commit(x, 8, 1, -1, 0, 1), 3);
  }

  /** Where the log ends, how many legs the entry has, whether it goes up to cell 511. */
  private static void fullAtCell511() {
    dueRoom(43, 0, 4, 4, 501, true);
    dueRoom(44, 2, 0, 4, 502, false);
    dueRoom(43, 1, 3, 3, 503, true);
    dueRoom(0, 0, 72, 3, 504, false);
    dueRoom(44, 0, 3, 2, 505, true);
    dueRoom(46, 0, 0, 2, 506, false);
    dueRoom(0, 0, 73, 2, 511, false);
  }

  private static void dueRoom(int ofFour, int ofThree, int ofTwo, int legs, int end, boolean room) {
    SealedLedger x = rich();
    add(x, 0, ofFour, 4);
    add(x, 100, 100 + ofThree, 3);
    add(x, 200, 200 + ofTwo, 2);
    int entries = ofFour + ofThree + ofTwo;
    due("entries up to cell " + end, x.entries(), entries);
    due(legs + " legs behind cell " + end, commit(x, 300, new int[2 * legs]), room ? entries : FULL);
    due("entries then", x.entries(), room ? entries + 1 : entries);
  }

  private static void fullChangesNothing() {
    SealedLedger x = rich();
    add(x, 0, 72, 2);
    due("three legs behind cell 504", commit(x, 300, 0, -1, 1, 1, 2, 0), FULL);
    due("entries", x.entries(), 72);
    due("find", x.find(300), NONE);
    due("balance", x.balance(0, 72), -72);
    due("the draft is kept", x.leg(3, 0), true);
    due("it has four now", x.leg(3, 0), false);
    x.drop();
    due("two legs find room", commit(x, 300, 0, -1, 1, 1), 72);
    due("and no more", commit(x, 301, 0, -1, 1, 1), FULL);
    due("sync", x.sync(), 64);
    due("the last cell stays 0", x.cell(511), 0);
  }

  private static void offBeforeUneven() {
    due("OFF with an empty draft", off().commit(1), OFF);
  }

  private static void unevenBeforeKey() {
    SealedLedger x = withEntries(1);
    due("another sum", commit(x, 0, 0, -1, 1, 2), UNEVEN);
    x.drop();
    due("one leg", commit(x, 0, 0, 0), UNEVEN);
  }

  private static void unevenBeforePoorAndFull() {
    due("poor", commit(new SealedLedger(), 1, 0, -2, 1, 1), UNEVEN);
    due("full", commit(withEntries(73), 99, 0, -2, 1, 1), UNEVEN);
  }

  private static void keyBeforePoorAndFull() {
    due("poor", commit(withEntries(1), 0, 5, -1, 1, 1), KEY);
    due("full", commit(withEntries(73), 0, 0, -2, 1, 2), KEY);
  }

  private static void poorBeforeFull() {
    due("poor and full", commit(withEntries(73), 99, 5, -1, 1, 1), POOR);
  }

  // Promise 6.

  private static void syncOfNothing() {
    SealedLedger x = new SealedLedger();
    due("no entries", x.sync(), 1);
    due("again", x.sync(), 1);
    due("writes", x.writes(), 2);
  }

  private static void syncOfAll() {
    SealedLedger x = withEntries(73);
    due("511 cells", x.sync(), 64);
    due("nothing new", x.sync(), 1);
    due("writes", x.writes(), 65);
  }

  private static void syncWhileOff() {
    SealedLedger x = off();
    int writes = x.writes();
    due("sync", x.sync(), OFF);
    x.fail(1);
    due("sync with a failure told", x.sync(), OFF);
    due("no writes", x.writes(), writes);
    due("so the failure is told still", x.recover(), OFF);
  }

  private static void syncAtWhichPowerFails() {
    for (int at = 1; at <= 4; at++) {
      SealedLedger x = withEntries(3);
      x.fail(at);
      due("three writes, power fails at write " + at, x.sync(), at <= 3 ? OFF : 3);
      due("on", x.on(), at == 4);
      due("writes", x.writes(), at - 1);
      due("synced", x.synced(), at <= 3 ? 0 : 3);
      due("the next sync", x.sync(), OFF);
    }
  }

  // Promise 7.

  private static void failAtTheFirst() {
    SealedLedger x = new SealedLedger();
    x.sync();
    due("fail(1)", x.fail(1), true);
    due("the first write from now on", x.sync(), OFF);
  }

  private static void failAtThe40th() {
    SealedLedger x = new SealedLedger();
    due("fail(40)", x.fail(40), true);
    for (int i = 1; i < 40; i++) due("write " + i, x.sync(), 1);
    due("write 40", x.sync(), OFF);
    SealedLedger long1 = withEntries(73);
    long1.fail(40);
    due("in one sync", long1.sync(), OFF);
    due("39 writes", long1.writes(), 39);
  }

  private static void failAtNone() {
    SealedLedger x = new SealedLedger();
    due("fail(0), none told", x.fail(0), true);
    due("sync", x.sync(), 1);
    x.fail(1);
    due("fail(0)", x.fail(0), true);
    for (int i = 0; i < 45; i++) due("sync", x.sync(), 1);
  }

  private static void failInPlaceOfAnother() {
    SealedLedger later = new SealedLedger();
    later.fail(1);
    later.fail(3);
    due("1 then 3: write 1", later.sync(), 1);
    due("1 then 3: write 2", later.sync(), 1);
    due("1 then 3: write 3", later.sync(), OFF);
    SealedLedger sooner = new SealedLedger();
    sooner.fail(3);
    sooner.sync();
    sooner.fail(1);
    due("3 then 1: the next write", sooner.sync(), OFF);
    sooner.recover();
    due("3 then 1: none is told any more", sooner.sync(), 1);
  }

  private static void failRefused() {
    int[] refused = {-1, 41, -40, MIN, MAX};
    for (int n : refused) {
      SealedLedger x = new SealedLedger();
      due("fail(" + n + ")", x.fail(n), false);
      for (int i = 0; i < 45; i++) due("none is told: sync", x.sync(), 1);
      x.fail(2);
      due("fail(" + n + ")", x.fail(n), false);
      due("2 is told still: write 1", x.sync(), 1);
      due("fail(" + n + ")", x.fail(n), false);
      due("2 is told still: write 2", x.sync(), OFF);
    }
  }

  private static void failWhileOff() {
    SealedLedger x = off();
    due("fail(41)", x.fail(41), false);
    due("fail(-1)", x.fail(-1), false);
    due("fail(2)", x.fail(2), true);
    due("the recovery's write is the first", x.recover(), 3);
    due("the second", x.sync(), OFF);
    x.fail(1);
    x.fail(0);
    due("none is told", x.recover(), 3);
  }

  // Promise 8.

  private static void recoverNone() {
    SealedLedger x = syncedEntries(2);
    powerOff(x);
    due("two entries", x.recover(), 2);
    SealedLedger empty = new SealedLedger();
    powerOff(empty);
    due("no entries", empty.recover(), 0);
    due("on", empty.on(), true);
    SealedLedger most = syncedEntries(73);
    powerOff(most);
    due("the most entries", most.recover(), 73);
  }

  private static void recoverAtWhichPowerFails() {
    SealedLedger x = off();
    for (int i = 0; i < 3; i++) {
      x.fail(1);
      due("recover", x.recover(), OFF);
      due("on", x.on(), false);
      due("entries", x.entries(), 0);
    }
    due("at last", x.recover(), 3);
    due("on", x.on(), true);
  }

  private static void recoverWhileOn() {
    SealedLedger x = syncedEntries(2);
    add(x, 2, 4, 2);
    x.leg(0, -1);
    x.put(9);
    x.fail(2);
    int writes = x.writes();
    due("recover", x.recover(), NONE);
    due("recover again", x.recover(), NONE);
    due("on", x.on(), true);
    due("entries", x.entries(), 4);
    due("synced", x.synced(), 2);
    due("pad(0)", x.pad(0), 9);
    due("writes", x.writes(), writes);
    due("the draft is kept", commit(x, 4, 1, 1), 4);
    due("power fails at the second write still", x.sync(), OFF);
    due("writes then", x.writes(), writes + 1);
    due("while off", x.recover(), 2);
    due("while on again", x.recover(), NONE);
  }

  // Promise 9.

  private static void asWithoutEntriesWhileOff() {
    SealedLedger x = off();
    due("on", x.on(), false);
    due("entries", x.entries(), 0);
    due("synced", x.synced(), 0);
    due("balance(0, 0)", x.balance(0, 0), 0);
    due("balance(0, 3)", x.balance(0, 3), 0);
    due("statement, how many", x.statement(0, 0, 3, false), 0);
    due("statement, sum", x.statement(0, 0, 3, true), 0);
    due("find(0)", x.find(0), NONE);
    due("find(2)", x.find(2), NONE);
    due("leaf(0)", x.leaf(0), 0);
    due("leaf(2)", x.leaf(2), 0);
    due("head(0)", x.head(0), mix(2, 0));
    due("head(1)", x.head(1), 0);
    due("head(3)", x.head(3), 0);
    due("prove(0, 1)", x.prove(0, 1), NONE);
    due("prove(2, 3)", x.prove(2, 3), NONE);
    due("extend(1, 1)", x.extend(1, 1), NONE);
    due("extend(1, 3)", x.extend(1, 3), NONE);
    due("extend(0, 0)", x.extend(0, 0), NONE);
  }

  private static void diskAndPadWhileOff() {
    SealedLedger x = syncedEntries(3);
    x.prove(0, 3);
    powerOff(x);
    due("cell(0), how many legs", x.cell(0), 2);
    due("cell(15), the key 2", x.cell(15), 2);
    due("writes", x.writes(), 3);
    due("pad(0)", x.pad(0), leafOfAdded(1));
    due("pad(1)", x.pad(1), leafOfAdded(2));
    due("included", x.included(leafOfAdded(0), 0, 3, hashOfAdded(0, 3)), true);
    due("take", x.take(), true);
    due("consistent", x.consistent(leafOfAdded(0), 1, hashOfAdded(0, 2), 2), true);
    due("take", x.take(), true);
    due("take of an empty pad", x.take(), false);
    due("put", x.put(4), true);
    due("pad(0)", x.pad(0), 4);
  }

  private static void onAgain() {
    SealedLedger x = off();
    x.recover();
    due("on", x.on(), true);
    due("entries", x.entries(), 3);
    due("find(2)", x.find(2), 2);
    due("head(3)", x.head(3), hashOfAdded(0, 3));
    due("balance(0, 3)", x.balance(0, 3), -3);
  }

  // Promises 10 to 15.

  private static void entriesFromNoneToMost() {
    due("none", new SealedLedger().entries(), 0);
    due("one", withEntries(1).entries(), 1);
    SealedLedger x = withEntries(73);
    due("the most", x.entries(), 73);
    commit(x, 99, 0, -1, 1, 1);
    due("the most, still", x.entries(), 73);
  }

  private static void syncedOfEntries() {
    SealedLedger x = withEntries(2);
    due("none", x.synced(), 0);
    x.sync();
    due("all", x.synced(), 2);
    add(x, 2, 3, 2);
    due("not the new one", x.synced(), 2);
    x.fail(1);
    x.sync();
    due("none while off", x.synced(), 0);
    x.recover();
    due("those of the disk", x.synced(), 2);
  }

  private static void balanceOfNoAccount() {
    SealedLedger x = withEntries(3);
    for (int account : NO_ACCOUNTS) due("balance(" + account + ", 3)", x.balance(account, 3), 0);
    due("balance(0, 3)", x.balance(0, 3), -3);
    due("balance(1, 3)", x.balance(1, 3), 3);
    commit(x, 9, 7, 0, 0, -5, 7, 5);
    due("balance(7, 4)", x.balance(7, 4), 5);
  }

  private static void balanceOfNotSoMany() {
    SealedLedger x = withEntries(3);
    due("balance(1, 0)", x.balance(1, 0), 0);
    due("balance(1, 1)", x.balance(1, 1), 1);
    due("balance(1, 3)", x.balance(1, 3), 3);
    due("balance(1, 4)", x.balance(1, 4), 0);
    due("balance(1, MAX)", x.balance(1, MAX), 0);
    due("balance(1, -1)", x.balance(1, -1), 0);
    due("balance(1, MIN)", x.balance(1, MIN), 0);
  }

  private static void statementOfNoAccount() {
    SealedLedger x = withEntries(3);
    for (int account : NO_ACCOUNTS) {
      due("statement(" + account + "), how many", x.statement(account, 0, 3, false), 0);
      due("statement(" + account + "), sum", x.statement(account, 0, 3, true), 0);
    }
    due("account 0, how many", x.statement(0, 0, 3, false), 3);
    due("account 0, sum", x.statement(0, 0, 3, true), -3);
    commit(x, 9, 7, 5, 0, -5);
    due("account 7, how many", x.statement(7, 0, 4, false), 1);
    due("account 7, sum", x.statement(7, 0, 4, true), 5);
  }

  private static void dueStatement(SealedLedger x, int from, int to, int many) {
    due("statement(1, " + from + ", " + to + "), how many", x.statement(1, from, to, false), many);
    due("statement(1, " + from + ", " + to + "), sum", x.statement(1, from, to, true), many);
  }

  private static void statementFromTo() {
    SealedLedger x = withEntries(5);
    dueStatement(x, 0, 5, 5);
    dueStatement(x, 0, 1, 1);
    dueStatement(x, 4, 5, 1);
    dueStatement(x, 1, 4, 3);
    dueStatement(x, 0, 0, 0);
    dueStatement(x, 2, 2, 0);
    dueStatement(x, 3, 2, 0);
    dueStatement(x, MAX, MIN, 0);
    dueStatement(x, 0, MIN, 0);
    dueStatement(x, MIN, MIN, 0);
    dueStatement(x, MAX, MAX, 0);
  }

  private static void statementOfEntriesNotThere() {
    SealedLedger x = withEntries(5);
    dueStatement(x, -3, 2, 2);
    dueStatement(x, 3, 99, 2);
    dueStatement(x, 4, 6, 1);
    dueStatement(x, -1, 6, 5);
    dueStatement(x, MIN, MAX, 5);
    dueStatement(x, MIN, 1, 1);
    dueStatement(x, 4, MAX, 1);
    dueStatement(x, 5, 6, 0);
    dueStatement(x, -1, 0, 0);
    dueStatement(x, MIN, 0, 0);
    dueStatement(x, 5, MAX, 0);
  }

  private static void findOfNone() {
    due("of no entries", new SealedLedger().find(0), NONE);
    SealedLedger x = rich();
    commit(x, 5, 0, -6, 1, 6);
    commit(x, MAX, 0, -6, 1, 6);
    due("find(5)", x.find(5), 0);
    due("find(MAX)", x.find(MAX), 1);
    int[] keys = {0, 1, 2, 4, 6, -5, -6, MIN, MAX - 1};
    for (int key : keys) due("find(" + key + ")", x.find(key), NONE);
    commit(x, 7, 5, -1, 1, 1);
    due("find of a refused key", x.find(7), NONE);
    powerOff(x);
    x.recover();
    due("find of a lost key", x.find(5), NONE);
  }

  private static void leafOfNone() {
    due("of no entries", new SealedLedger().leaf(0), 0);
    SealedLedger x = withEntries(3);
    due("leaf(0)", x.leaf(0), leafOfAdded(0));
    due("leaf(2)", x.leaf(2), leafOfAdded(2));
    int[] numbers = {-1, 3, 4, MIN, MAX};
    for (int i : numbers) due("leaf(" + i + ")", x.leaf(i), 0);
    SealedLedger most = withEntries(73);
    due("leaf(72)", most.leaf(72), leafOfAdded(72));
    due("leaf(73)", most.leaf(73), 0);
    SealedLedger lost = syncedEntries(1);
    add(lost, 1, 3, 2);
    powerOff(lost);
    lost.recover();
    due("leaf(0) behind a recovery", lost.leaf(0), leafOfAdded(0));
    due("leaf(1), lost", lost.leaf(1), 0);
    due("leaf(2), lost", lost.leaf(2), 0);
  }

  // Promises 16 to 18.

  private static void headOfNotSoMany() {
    SealedLedger x = syncedEntries(3);
    add(x, 3, 4, 2);
    due("head(0)", x.head(0), mix(2, 0));
    due("head(3)", x.head(3), hashOfAdded(0, 3));
    due("head(4) is not synced", x.head(4), 0);
    due("head(5)", x.head(5), 0);
    due("head(MAX)", x.head(MAX), 0);
    due("head(-1)", x.head(-1), 0);
    due("head(MIN)", x.head(MIN), 0);
    x.sync();
    due("head(4)", x.head(4), hashOfAdded(0, 4));
  }

  private static void proveOfNotSoMany() {
    SealedLedger x = syncedEntries(3);
    add(x, 3, 4, 2);
    int[] numbers = {4, 5, 73, MAX};
    for (int n : numbers) due("prove(0, " + n + ")", x.prove(0, n), NONE);
    due("prove(0, 3)", x.prove(0, 3), 2);
    x.sync();
    due("prove(0, 4)", x.prove(0, 4), 2);
  }

  private static void proveOfNoSuchEntry() {
    SealedLedger x = syncedEntries(4);
    int[][] refused = {{-1, 4}, {4, 4}, {3, 3}, {1, 1}, {-1, 1}, {0, 0}, {-1, 0}, {0, -1}, {-1, -1},
        {-2, -1}, {MIN, 4}, {MAX, 4}, {MIN, MIN}, {MIN, 0}, {0, MIN}};
    for (int[] r : refused) due("prove(" + r[0] + ", " + r[1] + ")", x.prove(r[0], r[1]), NONE);
    due("prove(0, 4)", x.prove(0, 4), 2);
    due("prove(3, 4)", x.prove(3, 4), 2);
    due("prove(0, 1)", x.prove(0, 1), 0);
  }

  private static void proveRefusedChangesNothing() {
    SealedLedger x = syncedEntries(4);
    x.put(8);
    x.put(9);
    x.prove(4, 4);
    x.prove(-1, 4);
    x.prove(0, 5);
    x.prove(0, 0);
    due("pad(0)", x.pad(0), 8);
    due("pad(1)", x.pad(1), 9);
    due("pad(2)", x.pad(2), 0);
    due("take", x.take(), true);
    due("take", x.take(), true);
    due("take of the third", x.take(), false);
  }

  private static void proofOnAFullPad() {
    SealedLedger x = syncedEntries(4);
    for (int k = 0; k < 16; k++) x.put(k + 1);
    due("prove(1, 4)", x.prove(1, 4), 2);
    due("pad(0)", x.pad(0), leafOfAdded(0));
    due("pad(1)", x.pad(1), hashOfAdded(2, 4));
    due("pad(2)", x.pad(2), 0);
    for (int k = 2; k < 16; k++) due("put " + k, x.put(k), true);
    due("put 16", x.put(16), false);
    due("extend(1, 4)", x.extend(1, 4), 2);
    due("pad(0)", x.pad(0), leafOfAdded(1));
    due("pad(1)", x.pad(1), hashOfAdded(2, 4));
    due("pad(2)", x.pad(2), 0);
  }

  private static void extendOfNotSoMany() {
    SealedLedger x = syncedEntries(3);
    add(x, 3, 4, 2);
    int[] numbers = {4, 5, 73, MAX};
    for (int n : numbers) {
      due("extend(1, " + n + ")", x.extend(1, n), NONE);
      due("extend(" + n + ", " + n + ")", x.extend(n, n), NONE);
    }
    due("extend(1, 3)", x.extend(1, 3), 2);
    x.sync();
    due("extend(1, 4)", x.extend(1, 4), 2);
    due("extend(4, 4)", x.extend(4, 4), 0);
  }

  private static void extendOfNoSuchM() {
    SealedLedger x = syncedEntries(4);
    int[][] refused = {{0, 4}, {5, 4}, {4, 3}, {2, 1}, {0, 1}, {0, 0}, {1, 0}, {-1, 0}, {-1, -1}, {-1, 4},
        {1, -1}, {MIN, 4}, {MAX, 4}, {MIN, MIN}, {1, MIN}, {0, MIN}};
    for (int[] r : refused) due("extend(" + r[0] + ", " + r[1] + ")", x.extend(r[0], r[1]), NONE);
    due("extend(1, 4)", x.extend(1, 4), 2);
    due("extend(4, 4)", x.extend(4, 4), 0);
    due("extend(1, 1)", x.extend(1, 1), 0);
  }

  private static void extendRefusedChangesNothing() {
    SealedLedger x = syncedEntries(4);
    x.put(8);
    x.put(9);
    x.extend(5, 4);
    x.extend(0, 4);
    x.extend(1, 5);
    x.extend(0, 0);
    due("pad(0)", x.pad(0), 8);
    due("pad(1)", x.pad(1), 9);
    due("pad(2)", x.pad(2), 0);
    due("take", x.take(), true);
    due("take", x.take(), true);
    due("take of the third", x.take(), false);
  }

  // Promises 19 to 21.

  private static void putOnAFullPad() {
    SealedLedger x = withPad(15);
    due("the 16th", x.put(MIN), true);
    due("the 17th", x.put(MAX), false);
    due("pad(15)", x.pad(15), MIN);
    due("pad(16)", x.pad(16), 0);
    due("take", x.take(), true);
    due("the 16th again", x.put(7), true);
    due("pad(15)", x.pad(15), 7);
    due("the 17th again", x.put(0), false);
  }

  private static void takeOfAnEmptyPad() {
    SealedLedger x = new SealedLedger();
    due("take", x.take(), false);
    due("take again", x.take(), false);
    due("put", x.put(5), true);
    due("it is int 0", x.pad(0), 5);
    due("take of one", x.take(), true);
    due("take of none", x.take(), false);
    SealedLedger full = withPad(16);
    for (int k = 0; k < 16; k++) due("take " + k, full.take(), true);
    due("take of none", full.take(), false);
  }

  private static void padOfNoSuchInt() {
    due("pad(0) of an empty pad", new SealedLedger().pad(0), 0);
    SealedLedger x = withPad(3);
    due("pad(0)", x.pad(0), 100);
    due("pad(2)", x.pad(2), 102);
    int[] numbers = {-1, 3, 15, 16, 17, MIN, MAX};
    for (int k : numbers) due("pad(" + k + ")", x.pad(k), 0);
    x.take();
    due("pad(2), taken", x.pad(2), 0);
    due("pad(15) of a full pad", withPad(16).pad(15), 115);
    due("pad(16) of a full pad", withPad(16).pad(16), 0);
  }

  // Promises 22 and 23.

  private static void includedInTooFewOrTooMany() {
    SealedLedger empty = new SealedLedger();
    due("n = 1", empty.included(5, 0, 1, 5), true);
    int[] none = {0, -1, MIN};
    for (int n : none) {
      due("n = " + n, empty.included(5, 0, n, 5), false);
      due("n = " + n + ", i = n - 1", empty.included(5, n - 1, n, 5), false);
    }
    SealedLedger ten = withPad(10);
    int head = 5;
    for (int k = 0; k < 10; k++) head = node(head, 100 + k);
    due("n = 1000", ten.included(5, 0, 1000, head), true);
    due("n = 1001", ten.included(5, 0, 1001, head), false);
    due("n = 1024", ten.included(5, 0, 1024, head), false);
    SealedLedger full = withPad(16);
    for (int k = 10; k < 16; k++) head = node(head, 100 + k);
    due("n = 65536", full.included(5, 0, 65536, head), false);
    due("n = MAX", full.included(5, 0, MAX, head), false);
  }

  private static void includedOfNoSuchEntry() {
    SealedLedger empty = new SealedLedger();
    int[] numbers = {-1, 1, 2, MIN, MAX};
    for (int i : numbers) due("i = " + i + " of 1", empty.included(5, i, 1, 5), false);
    SealedLedger one = withPad(1);
    due("0 of 2", one.included(5, 0, 2, node(5, 100)), true);
    due("-1 of 2", one.included(5, -1, 2, node(5, 100)), false);
    due("MIN of 2", one.included(5, MIN, 2, node(5, 100)), false);
    due("1 of 2", one.included(5, 1, 2, node(100, 5)), true);
    due("2 of 2", one.included(5, 2, 2, node(100, 5)), false);
    due("MAX of 2", one.included(5, MAX, 2, node(100, 5)), false);
    SealedLedger eight = withPad(8);
    int head = 5;
    for (int k = 0; k < 8; k++) head = node(100 + k, head);
    due("999 of 1000", eight.included(5, 999, 1000, head), true);
    due("1000 of 1000", eight.included(5, 1000, 1000, head), false);
  }

  private static void consistentWithTooFewOrTooMany() {
    SealedLedger empty = new SealedLedger();
    due("1 of 1", empty.consistent(5, 1, 5, 1), true);
    due("1000 of 1000", empty.consistent(5, 1000, 5, 1000), true);
    int[] refused = {0, -1, 1001, 1024, MIN, MAX};
    for (int n : refused) due("m = n = " + n, empty.consistent(5, n, 5, n), false);
    SealedLedger one = withPad(1);
    due("512 of 1000", one.consistent(5, 512, node(5, 100), 1000), true);
    due("512 of 1001", one.consistent(5, 512, node(5, 100), 1001), false);
    due("512 of MAX", one.consistent(5, 512, node(5, 100), MAX), false);
  }

  private static void consistentOfNoSuchM() {
    for (int ints = 0; ints <= 16; ints++) {
      SealedLedger x = withPad(ints);
      int head = 5;
      int turned = 5;
      for (int k = 0; k < ints; k++) {
        head = node(head, 100 + k);
        turned = node(100 + k, turned);
      }
      int[][] refused = {{0, 1}, {0, 2}, {0, 1000}, {-1, 1}, {-1, 2}, {2, 1}, {3, 2}, {1001, 1000}, {MIN, 1},
          {MAX, 1}, {MIN, 1000}, {MAX, 1000}};
      for (int[] r : refused) {
        String which = r[0] + " of " + r[1] + " with " + ints + " ints";
        due(which, x.consistent(5, r[0], head, r[1]), false);
        due(which + ", turned", x.consistent(turned, r[0], turned, r[1]), false);
      }
    }
  }

  // Promises 24 and 25.

  private static void cellOfNone() {
    SealedLedger x = rich();
    add(x, 0, 43, 4);
    add(x, 100, 104, 2);
    due("the entry that fills the disk", commit(x, 200, new int[8]), 47);
    x.sync();
    due("cell(0)", x.cell(0), 4);
    due("cell(511)", x.cell(511) != 0, true);
    int[] numbers = {-1, 512, 513, MIN, MAX};
    for (int k : numbers) due("cell(" + k + ")", x.cell(k), 0);
  }

  private static void writesThatWereDone() {
    SealedLedger x = new SealedLedger();
    due("none at first", x.writes(), 0);
    x.sync();
    due("one", x.writes(), 1);
    x.fail(1);
    x.sync();
    due("a failed one is not done", x.writes(), 1);
    x.sync();
    due("none while off", x.writes(), 1);
    x.fail(1);
    x.recover();
    due("a failed one of a recovery", x.writes(), 1);
    x.recover();
    due("one of a recovery", x.writes(), 2);
    x.recover();
    due("none of a refused recovery", x.writes(), 2);
    due("all of a failed sync but the last", writesBeforeFailure(), 2);
  }

  private static int writesBeforeFailure() {
    SealedLedger x = withEntries(5);
    x.fail(3);
    x.sync();
    return x.writes();
  }

  // The list.

  private static void promises1To4() {
    test("1: No entries", PromiseBoundaryTests::newHasNoEntries);
    test("1: an empty draft", PromiseBoundaryTests::newHasAnEmptyDraft);
    test("1: and pad", PromiseBoundaryTests::newHasAnEmptyPad);
    test("1: the machine is on", PromiseBoundaryTests::newIsOn);
    test("2: The limit of an account becomes l, 0 and 99999", PromiseBoundaryTests::limitAtItsEnds);
    test("2: false when there is no such account", PromiseBoundaryTests::limitOfNoAccount);
    test("2: or l is not 0 .. 99999, too small", PromiseBoundaryTests::limitTooSmall);
    test("2: or l is not 0 .. 99999, too large", PromiseBoundaryTests::limitTooLarge);
    test("2: becomes l, also below what is owed", PromiseBoundaryTests::limitAsOften);
    test("2: becomes l, also while off", PromiseBoundaryTests::limitWhileOff);
    test("3: false when the machine is off", PromiseBoundaryTests::legWhileOff);
    test("3: the draft has 4", PromiseBoundaryTests::fifthLeg);
    test("3: or account is not as said", PromiseBoundaryTests::legOfNoAccount);
    test("3: or amount is not as said, too small", PromiseBoundaryTests::legAmountTooSmall);
    test("3: or amount is not as said, too large", PromiseBoundaryTests::legAmountTooLarge);
    test("4: The draft has no legs then, of an empty one", PromiseBoundaryTests::dropOfNone);
    test("4: The draft has no legs then, of a full one", PromiseBoundaryTests::dropOfAFullDraft);
    test("4: The draft has no legs then, while off", PromiseBoundaryTests::dropWhileOff);
  }

  private static void promise5() {
    test("5: the next entry: its number", PromiseBoundaryTests::commitNumbers);
    test("5: just the same legs: that entry's number, and none is added", PromiseBoundaryTests::commitAgain);
    test("5: just the same legs, though poor or full", PromiseBoundaryTests::commitAgainThoughPoorOrFull);
    test("5: In both cases the draft is empty then", PromiseBoundaryTests::draftIsEmptyAfterwards);
    test("5: OFF", PromiseBoundaryTests::commitWhileOff);
    test("5: UNEVEN: fewer than 2 legs", PromiseBoundaryTests::commitOfTooFewLegs);
    test("5: UNEVEN: or their sum is not 0", PromiseBoundaryTests::commitOfAnotherSum);
    test("5: KEY: the first entry of that key has other legs", PromiseBoundaryTests::commitOfOtherLegs);
    test("5: KEY: other legs, more or fewer", PromiseBoundaryTests::commitOfMoreOrFewerLegs);
    test("5: POOR: a balance below 0 less its limit", PromiseBoundaryTests::commitOfThePoor);
    test("5: POOR: an account of the draft, of any leg", PromiseBoundaryTests::eachLegMayBePoor);
    test("5: POOR: then, with all legs", PromiseBoundaryTests::legsOfAnAccountTogether);
    test("5: POOR: an account of the draft, and no other", PromiseBoundaryTests::onlyAccountsOfTheDraft);
    test("5: FULL: the log would go beyond cell 511", PromiseBoundaryTests::fullAtCell511);
    test("5: FULL, changing nothing", PromiseBoundaryTests::fullChangesNothing);
    test("5: the first of: OFF before UNEVEN", PromiseBoundaryTests::offBeforeUneven);
    test("5: the first of: UNEVEN before KEY", PromiseBoundaryTests::unevenBeforeKey);
    test("5: the first of: UNEVEN before POOR and FULL", PromiseBoundaryTests::unevenBeforePoorAndFull);
    test("5: the first of: KEY before POOR and FULL", PromiseBoundaryTests::keyBeforePoorAndFull);
    test("5: the first of: POOR before FULL", PromiseBoundaryTests::poorBeforeFull);
  }

  private static void promises6To9() {
    test("6: how many writes were done, of nothing new", PromiseBoundaryTests::syncOfNothing);
    test("6: how many writes were done, of a full disk", PromiseBoundaryTests::syncOfAll);
    test("6: OFF when the machine is off", PromiseBoundaryTests::syncWhileOff);
    test("6: or its power fails now", PromiseBoundaryTests::syncAtWhichPowerFails);
    test("7: at the n-th write from now on, n = 1", PromiseBoundaryTests::failAtTheFirst);
    test("7: at the n-th write from now on, n = 40", PromiseBoundaryTests::failAtThe40th);
    test("7: or none for n = 0", PromiseBoundaryTests::failAtNone);
    test("7: (in place of what was told)", PromiseBoundaryTests::failInPlaceOfAnother);
    test("7: False, changing nothing, for another n", PromiseBoundaryTests::failRefused);
    test("7: from now on, told while off", PromiseBoundaryTests::failWhileOff);
    test("8: how many entries there are then", PromiseBoundaryTests::recoverNone);
    test("8: OFF when its power fails again", PromiseBoundaryTests::recoverAtWhichPowerFails);
    test("8: NONE, changing nothing, when the machine is not off", PromiseBoundaryTests::recoverWhileOn);
    test("9: answers as without entries while it is off", PromiseBoundaryTests::asWithoutEntriesWhileOff);
    test("9: (but cell, writes and the pad's)", PromiseBoundaryTests::diskAndPadWhileOff);
    test("9: Whether the machine is on", PromiseBoundaryTests::onAgain);
  }

  private static void promises10To18() {
    test("10: How many entries there are", PromiseBoundaryTests::entriesFromNoneToMost);
    test("11: How many entries are synced", PromiseBoundaryTests::syncedOfEntries);
    test("12: 0 when there is no such account", PromiseBoundaryTests::balanceOfNoAccount);
    test("12: or there are not n entries", PromiseBoundaryTests::balanceOfNotSoMany);
    test("13: 0 when there is no such account", PromiseBoundaryTests::statementOfNoAccount);
    test("13: in entries from .. to - 1", PromiseBoundaryTests::statementFromTo);
    test("13: (Entries that are not there have no legs.)", PromiseBoundaryTests::statementOfEntriesNotThere);
    test("14: NONE when there is none", PromiseBoundaryTests::findOfNone);
    test("15: 0 when there is none", PromiseBoundaryTests::leafOfNone);
    test("16: 0 when not so many are synced", PromiseBoundaryTests::headOfNotSoMany);
    test("17: NONE when not so many are synced", PromiseBoundaryTests::proveOfNotSoMany);
    test("17: NONE when i is not 0 .. n - 1", PromiseBoundaryTests::proveOfNoSuchEntry);
    test("17: NONE, changing nothing", PromiseBoundaryTests::proveRefusedChangesNothing);
    test("17, 18: The pad becomes, when it was full", PromiseBoundaryTests::proofOnAFullPad);
    test("18: NONE when not so many are synced", PromiseBoundaryTests::extendOfNotSoMany);
    test("18: NONE when m is not 1 .. n", PromiseBoundaryTests::extendOfNoSuchM);
    test("18: NONE, changing nothing", PromiseBoundaryTests::extendRefusedChangesNothing);
  }

  private static void promises19To25() {
    test("19: false when it has 16", PromiseBoundaryTests::putOnAFullPad);
    test("20: false when it is empty", PromiseBoundaryTests::takeOfAnEmptyPad);
    test("21: 0 when there is none", PromiseBoundaryTests::padOfNoSuchInt);
    test("22: false also when n is not 1 .. 1000", PromiseBoundaryTests::includedInTooFewOrTooMany);
    test("22: or i is not 0 .. n - 1", PromiseBoundaryTests::includedOfNoSuchEntry);
    test("23: false also when n is not 1 .. 1000", PromiseBoundaryTests::consistentWithTooFewOrTooMany);
    test("23: or m is not 1 .. n", PromiseBoundaryTests::consistentOfNoSuchM);
    test("24: 0 when there is none", PromiseBoundaryTests::cellOfNone);
    test("25: How many writes were done", PromiseBoundaryTests::writesThatWereDone);
  }

  public static void main(String[] args) {
    promises1To4();
    promise5();
    promises6To9();
    promises10To18();
    promises19To25();
    System.out.println(tests + " sentences");
    System.out.println(wrong == 0 ? "all answers are as due" : wrong + " answers are not as due");
    if (wrong != 0) System.exit(1);
  }
}
