import java.util.ArrayList;
import java.util.List;

/**
 * Long runs of calls on the class and on a second program that is written word by word after the
 * document, without a thought for speed; every answer of the two must be the same.
 */
public final class ModelRuns {
  private static final int RUNS = 3000;
  private static final int CALLS = 512;
  /** The last calls of a run look at the disk. */
  private static final int LOOKS = 40;
  private static final int MOST_REPORTS = 20;

  // The second program.

  private record Leg(int account, int amount) {}

  private record Entry(int key, List<Leg> legs) {
    int leaf() {
      int h = mix(0, key);
      for (Leg leg : legs) h = mix(h, 16 * leg.amount + leg.account);
      return h;
    }
  }

  private static int mix(int a, int b) {
    int x = a * 16777619 + b;
    int y = (x ^ (x >>> 15)) * 739982445;
    return y ^ (y >>> 12);
  }

  private static int node(int l, int r) {
    return mix(mix(1, l), r);
  }

  private static int split(int n) {
    return Integer.highestOneBit(n - 1);
  }

  private static int hash(List<Entry> row) {
    if (row.isEmpty()) return mix(2, 0);
    if (row.size() == 1) return row.get(0).leaf();
    int k = split(row.size());
    return node(hash(row.subList(0, k)), hash(row.subList(k, row.size())));
  }

  private static List<Integer> with(List<Integer> list, int last) {
    List<Integer> longer = new ArrayList<>(list);
    longer.add(last);
    return longer;
  }

  private static List<Integer> withoutLast(List<Integer> list) {
    return list.subList(0, list.size() - 1);
  }

  private static List<Integer> inclusion(int i, List<Entry> row) {
    int n = row.size();
    if (n == 1) return List.of();
    int k = split(n);
    List<Entry> first = row.subList(0, k);
    List<Entry> others = row.subList(k, n);
    return i < k ? with(inclusion(i, first), hash(others)) : with(inclusion(i - k, others), hash(first));
  }

  private static List<Integer> consistency(int m, List<Entry> row, boolean own) {
    int n = row.size();
    if (m == n) return own ? List.of() : List.of(hash(row));
    int k = split(n);
    List<Entry> first = row.subList(0, k);
    List<Entry> others = row.subList(k, n);
    return m <= k
        ? with(consistency(m, first, own), hash(others))
        : with(consistency(m - k, others, false), hash(first));
  }

  /** Null where the pad shows nothing. */
  private static Integer shows(List<Integer> pad, int leaf, int i, int n) {
    if (n == 1) return pad.isEmpty() ? leaf : null;
    if (pad.isEmpty()) return null;
    int k = split(n);
    int z = pad.get(pad.size() - 1);
    Integer h = i < k ? shows(withoutLast(pad), leaf, i, k) : shows(withoutLast(pad), leaf, i - k, n - k);
    if (h == null) return null;
    return i < k ? node(h, z) : node(z, h);
  }

  private static int[] showsTwo(List<Integer> pad, int old, int m, int n, boolean own) {
    if (m == n && own) return pad.isEmpty() ? new int[] {old, old} : null;
    if (m == n) return pad.size() == 1 ? new int[] {pad.get(0), pad.get(0)} : null;
    if (pad.isEmpty()) return null;
    int k = split(n);
    int z = pad.get(pad.size() - 1);
    int[] ab = m <= k
        ? showsTwo(withoutLast(pad), old, m, k, own)
        : showsTwo(withoutLast(pad), old, m - k, n - k, false);
    if (ab == null) return null;
    return m <= k ? new int[] {ab[0], node(ab[1], z)} : new int[] {node(z, ab[0]), node(z, ab[1])};
  }

  private static final class Model {
    List<Entry> entries = new ArrayList<>();
    List<Leg> draft = new ArrayList<>();
    List<Integer> pad = new ArrayList<>();
    final int[] limits = new int[8];
    final int[] disk = new int[512];
    int synced;
    int syncedBlock;
    int told;
    int writes;
    boolean on = true;

    static boolean isAccount(int account) {
      return 0 <= account && account <= 7;
    }

    static boolean isAmount(int amount) {
      return -9999 <= amount && amount <= 9999;
    }

    static List<Integer> cells(List<Entry> entries) {
      List<Integer> cells = new ArrayList<>();
      int seal = 0;
      for (Entry entry : entries) {
        cells.add(entry.legs.size());
        cells.add(entry.key);
        for (Leg leg : entry.legs) {
          cells.add(leg.account);
          cells.add(leg.amount);
        }
        seal = mix(seal, entry.leaf());
        cells.add(seal);
      }
      return cells;
    }

    int endBlock() {
      int end = cells(entries).size();
      return end == 512 ? 63 : end / 8;
    }

    boolean write(int block) {
      if (told == 1) {
        on = false;
        told = 0;
        draft.clear();
        entries = new ArrayList<>();
        synced = 0;
        return false;
      }
      if (told > 1) told--;
      List<Integer> cells = cells(entries);
      for (int k = 8 * block; k < 8 * block + 8; k++) disk[k] = k < cells.size() ? cells.get(k) : 0;
      writes++;
      return true;
    }

    int balanceAfter(int account, List<Entry> row) {
      int balance = 0;
      for (Entry entry : row) {
        for (Leg leg : entry.legs) if (leg.account == account) balance += leg.amount;
      }
      return balance;
    }

    int find(int key) {
      for (int i = 0; i < entries.size(); i++) if (entries.get(i).key == key) return i;
      return -1;
    }

    int commit(int key) {
      if (!on) return -2;
      int sum = 0;
      for (Leg leg : draft) sum += leg.amount;
      if (draft.size() < 2 || sum != 0) return -3;
      int known = find(key);
      if (known >= 0 && !entries.get(known).legs.equals(draft)) return -4;
      if (known >= 0) {
        draft.clear();
        return known;
      }
      List<Entry> then = new ArrayList<>(entries);
      then.add(new Entry(key, new ArrayList<>(draft)));
      for (Leg leg : draft) if (balanceAfter(leg.account, then) < 0 - limits[leg.account]) return -5;
      if (cells(then).size() > 512) return -6;
      entries = then;
      draft.clear();
      return entries.size() - 1;
    }

    int sync() {
      if (!on) return -2;
      int to = endBlock();
      int done = 0;
      for (int block = syncedBlock; block <= to; block++) {
        if (!write(block)) return -2;
        done++;
      }
      synced = entries.size();
      syncedBlock = to;
      return done;
    }

    Entry soundAt(int start, int sealBefore) {
      if (start >= 512 || disk[start] < 2 || disk[start] > 4) return null;
      int sealAt = start + 2 + 2 * disk[start];
      if (sealAt >= 512) return null;
      List<Leg> legs = new ArrayList<>();
      int sum = 0;
      for (int k = start + 2; k < sealAt; k += 2) {
        if (!isAccount(disk[k]) || !isAmount(disk[k + 1])) return null;
        legs.add(new Leg(disk[k], disk[k + 1]));
        sum += disk[k + 1];
      }
      Entry entry = new Entry(disk[start + 1], legs);
      return sum == 0 && disk[sealAt] == mix(sealBefore, entry.leaf()) ? entry : null;
    }

    int recover() {
      if (on) return -1;
      int start = 0;
      int seal = 0;
      for (Entry entry = soundAt(0, 0); entry != null; entry = soundAt(start, seal)) {
        entries.add(entry);
        seal = mix(seal, entry.leaf());
        start = cells(entries).size();
      }
      on = true;
      synced = entries.size();
      syncedBlock = endBlock();
      if (start != 512 && !write(syncedBlock)) return -2;
      return entries.size();
    }

    int statement(int account, int from, int to, boolean sum) {
      int answer = 0;
      for (int i = 0; i < entries.size(); i++) {
        if (i < from || i >= to) continue;
        for (Leg leg : entries.get(i).legs) if (leg.account == account) answer += sum ? leg.amount : 1;
      }
      return answer;
    }

    int prove(int i, int n) {
      if (n > synced || i < 0 || i >= n) return -1;
      pad = new ArrayList<>(inclusion(i, entries.subList(0, n)));
      return pad.size();
    }

    int extend(int m, int n) {
      if (n > synced || m < 1 || m > n) return -1;
      pad = new ArrayList<>(consistency(m, entries.subList(0, n), true));
      return pad.size();
    }

    boolean included(int leaf, int i, int n, int head) {
      if (n < 1 || n > 1000 || i < 0 || i >= n) return false;
      Integer shown = shows(pad, leaf, i, n);
      return shown != null && shown == head;
    }

    boolean consistent(int old, int m, int head, int n) {
      if (n < 1 || n > 1000 || m < 1 || m > n) return false;
      int[] shown = showsTwo(pad, old, m, n, true);
      return shown != null && shown[0] == old && shown[1] == head;
    }

    int answer(String call, int a, int b, int c, int d) {
      switch (call) {
        case "limit":
          if (!isAccount(a) || b < 0 || b > 99999) return 0;
          limits[a] = b;
          return 1;
        case "leg":
          if (!on || draft.size() == 4 || !isAccount(a) || !isAmount(b)) return 0;
          draft.add(new Leg(a, b));
          return 1;
        case "drop":
          draft.clear();
          return 0;
        case "commit": return commit(a);
        case "sync": return sync();
        case "fail":
          if (a < 0 || a > 40) return 0;
          told = a;
          return 1;
        case "recover": return recover();
        case "on": return on ? 1 : 0;
        case "entries": return entries.size();
        case "synced": return synced;
        case "balance":
          return b < 0 || b > entries.size() ? 0 : balanceAfter(a, entries.subList(0, b));
        case "statement": return statement(a, b, c, d != 0);
        case "find": return find(a);
        case "leaf": return a < 0 || a >= entries.size() ? 0 : entries.get(a).leaf();
        case "head": return a < 0 || a > synced ? 0 : hash(entries.subList(0, a));
        case "prove": return prove(a, b);
        case "extend": return extend(a, b);
        case "put":
          if (pad.size() == 16) return 0;
          pad.add(a);
          return 1;
        case "take":
          if (pad.isEmpty()) return 0;
          pad.remove(pad.size() - 1);
          return 1;
        case "pad": return a < 0 || a >= pad.size() ? 0 : pad.get(a);
        case "included": return included(a, b, c, d) ? 1 : 0;
        case "consistent": return consistent(a, b, c, d) ? 1 : 0;
        case "cell": return a < 0 || a > 511 ? 0 : disk[a];
        case "writes": return writes;
        default: throw new IllegalArgumentException(call);
      }
    }
  }

  private static int one(boolean yes) {
    return yes ? 1 : 0;
  }

  private static int ask(SealedLedger x, String call, int a, int b, int c, int d) {
    switch (call) {
      case "limit": return one(x.limit(a, b));
      case "leg": return one(x.leg(a, b));
      case "drop":
        x.drop();
        return 0;
      case "commit": return x.commit(a);
      case "sync": return x.sync();
      case "fail": return one(x.fail(a));
      case "recover": return x.recover();
      case "on": return one(x.on());
      case "entries": return x.entries();
      case "synced": return x.synced();
      case "balance": return x.balance(a, b);
      case "statement": return x.statement(a, b, c, d != 0);
      case "find": return x.find(a);
      case "leaf": return x.leaf(a);
      case "head": return x.head(a);
      case "prove": return x.prove(a, b);
      case "extend": return x.extend(a, b);
      case "put": return one(x.put(a));
      case "take": return one(x.take());
      case "pad": return x.pad(a);
      case "included": return one(x.included(a, b, c, d));
      case "consistent": return one(x.consistent(a, b, c, d));
      case "cell": return x.cell(a);
      case "writes": return x.writes();
      default: throw new IllegalArgumentException(call);
    }
  }

  // The runs.

  private static int wrong = 0;

  private static final class Run {
    private static final int[] EDGES = {
      Integer.MIN_VALUE, Integer.MAX_VALUE, -10000, -1, 0, 8, 16, 17, 41, 512, 513, 1000, 1001, 10000, 100000
    };
    final int number;
    /** How many of a hundred steps lose power, or ask for it. */
    final int trouble;
    /** How many of a hundred steps only ask. */
    final int questions;
    final int mostLegs;
    final SealedLedger ledger = new SealedLedger();
    final Model model = new Model();
    long seed;
    int calls = 0;

    Run(int number) {
      this.number = number;
      seed = number * 0x9E3779B97F4A7C15L + 1;
      trouble = new int[] {0, 3, 12, 25}[number % 4];
      questions = new int[] {2, 30, 70}[number / 4 % 3];
      mostLegs = 2 + number / 12 % 3;
    }

    /** 0 .. below - 1, always the same for the same run. */
    int any(int below) {
      seed = seed * 6364136223846793005L + 1442695040888963407L;
      return (int) ((seed >>> 33) % below);
    }

    int between(int from, int to) {
      return from + any(to - from + 1);
    }

    /** Mostly from .. to, now and then an edge or a number near them. */
    int around(int from, int to) {
      int kind = any(40);
      if (kind == 0) return EDGES[any(EDGES.length)];
      if (kind == 1) return between(from - 2, to + 2);
      return between(from, to);
    }

    int call(String call, int a, int b, int c, int d) {
      if (calls >= CALLS) return 0;
      calls++;
      int want = model.answer(call, a, b, c, d);
      int got = ask(ledger, call, a, b, c, d);
      if (got != want) {
        wrong++;
        if (wrong <= MOST_REPORTS) {
          System.out.println("run " + number + ", call " + calls + ": " + call + "(" + a + ", " + b + ", " + c
              + ", " + d + ") answered " + got + ", due is " + want);
        }
      }
      return want;
    }

    int call(String call) {
      return call(call, 0, 0, 0, 0);
    }

    void transfer() {
      int legs = any(30) == 0 ? between(0, 5) : between(2, mostLegs);
      int sum = 0;
      for (int j = 1; j < legs; j++) {
        int amount = any(8) == 0 ? around(-9999, 9999) : between(-40, 40);
        if (call("leg", around(0, 7), amount, 0, 0) == 1) sum += amount;
      }
      call("leg", around(0, 7), any(30) == 0 ? sum : -sum, 0, 0);
      int key = any(4) == 0 ? between(0, 12) : any(1000000) - 500000;
      int answer = call("commit", key, 0, 0, 0);
      if (answer < 0 && any(4) != 0) call("drop");
    }

    /** An entry's legs again, with its key. */
    void again() {
      if (model.entries.isEmpty()) return;
      Entry entry = model.entries.get(any(model.entries.size()));
      call("drop");
      for (Leg leg : entry.legs) call("leg", leg.account, any(20) == 0 ? 1 : leg.amount, 0, 0);
      call("commit", entry.key, 0, 0, 0);
    }

    void lose() {
      call("fail", any(3) == 0 ? around(0, 40) : between(1, 4), 0, 0, 0);
      if (any(2) == 0) transfer();
      if (any(2) == 0) call("sync");
    }

    void back() {
      if (any(3) == 0) call("fail", between(0, 3), 0, 0, 0);
      call("recover");
    }

    void tamper() {
      int kind = any(6);
      if (kind == 0) call("take");
      if (kind == 1) call("put", any(1000), 0, 0, 0);
      if (kind == 2 && call("take") == 1) call("put", any(1000), 0, 0, 0);
    }

    void proveOne() {
      int n = around(1, Math.max(1, model.synced));
      int i = around(0, Math.max(0, Math.min(n, 100) - 1));
      call("prove", i, n, 0, 0);
      tamper();
      int head = call("head", n, 0, 0, 0);
      int leaf = call("leaf", i, 0, 0, 0);
      call("included", leaf, i, n, head);
      call("pad", around(0, 8), 0, 0, 0);
    }

    void proveOlder() {
      int n = around(1, Math.max(1, model.synced));
      int m = around(1, Math.max(1, Math.min(n, 100)));
      call("extend", m, n, 0, 0);
      tamper();
      int old = call("head", m, 0, 0, 0);
      int head = call("head", n, 0, 0, 0);
      call("consistent", old, m, head, n);
      call("pad", around(0, 8), 0, 0, 0);
    }

    /** A pad of free ints, and what it shows by the model. */
    void padByHand() {
      while (call("take") == 1 && calls < CALLS) { }
      int n = around(1, 1000);
      int i = around(0, Math.max(1, Math.min(n, 1001)) - 1);
      int ints = around(0, 16);
      for (int k = 0; k < Math.min(ints, 17); k++) call("put", any(100), 0, 0, 0);
      boolean inRange = n >= 1 && n <= 1000 && i >= 0 && i < n;
      Integer shown = inRange ? shows(model.pad, 5, i, n) : null;
      call("included", 5, i, n, shown == null ? 5 : shown);
      int[] two = inRange ? showsTwo(model.pad, 5, i + 1, n, true) : null;
      call("consistent", two == null ? 5 : two[0], i + 1, two == null ? 5 : two[1], n);
    }

    void question() {
      int size = model.entries.size();
      switch (any(14)) {
        case 0: call("balance", around(0, 7), around(0, size), 0, 0); break;
        case 1: call("statement", around(0, 7), around(-1, size), around(0, size + 1), any(2)); break;
        case 2: call("find", around(0, 12), 0, 0, 0); break;
        case 3: call("leaf", around(0, size), 0, 0, 0); break;
        case 4: call("head", around(0, model.synced + 1), 0, 0, 0); break;
        case 5: call("cell", around(0, 511), 0, 0, 0); break;
        case 6: call("writes"); break;
        case 7: call("entries"); break;
        case 8: call("synced"); break;
        case 9: call("on"); break;
        case 10: proveOne(); break;
        case 11: proveOlder(); break;
        case 12: padByHand(); break;
        default: call("limit", around(0, 7), around(0, 99999), 0, 0); break;
      }
    }

    void step() {
      int kind = any(100);
      if (!model.on && any(3) != 0) back();
      else if (kind < trouble) lose();
      else if (kind < trouble + questions) question();
      else if (any(6) == 0) call("sync");
      else if (any(10) == 0) again();
      else if (any(200) == 0) call("recover");
      else transfer();
    }

    void go() {
      for (int account = 0; account < 8; account++) {
        if (any(5) != 0) call("limit", account, any(3) == 0 ? any(100) : 99999, 0, 0);
      }
      while (calls < CALLS - LOOKS) step();
      while (calls < CALLS) call("cell", between(0, 511), 0, 0, 0);
    }
  }

  public static void main(String[] args) {
    int most = 0;
    for (int number = 0; number < RUNS; number++) {
      Run run = new Run(number);
      run.go();
      most = Math.max(most, run.model.entries.size());
    }
    System.out.println(RUNS + " runs of " + CALLS + " calls, up to " + most + " entries");
    System.out.println(wrong == 0 ? "all answers are as due" : wrong + " answers are not as due");
    if (wrong != 0) System.exit(1);
  }
}
