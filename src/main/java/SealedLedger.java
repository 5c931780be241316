/**
 * A ledger that can be checked from outside: its entries are kept in a log on a disk that may lose
 * its power at any write, and a tree of hashes over them gives heads and short proofs.
 */
public final class SealedLedger {
    public static final int NONE = -1;
    public static final int OFF = -2;
    public static final int UNEVEN = -3;
    public static final int KEY = -4;
    public static final int POOR = -5;
    public static final int FULL = -6;

    private static final int ACCOUNTS = 8;
    private static final int MOST_AMOUNT = 9999;
    private static final int MOST_LIMIT = 99999;
    private static final int FEWEST_LEGS = 2;
    private static final int MOST_LEGS = 4;
    private static final int CELLS = 512;
    private static final int BLOCK_CELLS = 8;
    private static final int LAST_BLOCK = 63;
    /** The shortest entry has 7 cells, so no more than these go into the log. */
    private static final int MOST_ENTRIES = CELLS / 7;
    private static final int MOST_FAIL = 40;
    private static final int PAD_INTS = 16;
    private static final int MOST_SHOWN = 1000;
    /** Rows of up to 1000 entries are asked about: they are split no more than 10 times. */
    private static final int LEVELS = 10;

    private final int[] limits;
    private final Draft draft;
    private final Log log;
    private final Disk disk;
    private final Pad proof;
    private boolean running;

    public SealedLedger() {
        limits = new int[ACCOUNTS];
        draft = new Draft();
        log = new Log();
        disk = new Disk();
        proof = new Pad();
        running = true;
    }

    public boolean limit(int account, int l) {
        if (!isAccount(account) || l < 0 || l > MOST_LIMIT) {
            return false;
        }
        limits[account] = l;
        return true;
    }

    public boolean leg(int account, int amount) {
        return running && isAccount(account) && isAmount(amount) && draft.add(account, amount);
    }

    public void drop() {
        draft.clear();
    }

    public int commit(int key) {
        if (!running) {
            return OFF;
        }
        if (!draft.isEven()) {
            return UNEVEN;
        }
        int number = log.firstWith(key);
        if (number == NONE) {
            return commitNew(key);
        }
        if (!log.hasLegsOf(draft, number)) {
            return KEY;
        }
        draft.clear();
        return number;
    }

    public int sync() {
        if (!running) {
            return OFF;
        }
        int first = log.syncedBlock();
        int last = log.endBlock();
        for (int block = first; block <= last; block++) {
            if (!writeBlock(block)) {
                return OFF;
            }
        }
        log.markSynced();
        return last - first + 1;
    }

    public boolean fail(int n) {
        if (n < 0 || n > MOST_FAIL) {
            return false;
        }
        disk.failAt(n);
        return true;
    }

    public int recover() {
        if (running) {
            return NONE;
        }
        log.load(disk);
        running = true;
        if (log.endsInBlock() && !writeBlock(log.endBlock())) {
            return OFF;
        }
        return log.size();
    }

    public boolean on() {
        return running;
    }

    public int entries() {
        return log.size();
    }

    public int synced() {
        return log.syncedSize();
    }

    public int balance(int account, int n) {
        if (!isAccount(account) || n < 0 || n > log.size()) {
            return 0;
        }
        return log.total(account, 0, n, true);
    }

    public int statement(int account, int from, int to, boolean sum) {
        return isAccount(account) ? log.total(account, from, to, sum) : 0;
    }

    public int find(int key) {
        return log.firstWith(key);
    }

    public int leaf(int i) {
        return log.leafOf(i);
    }

    public int head(int n) {
        return n < 0 || n > log.syncedSize() ? 0 : Tree.headOf(log, n);
    }

    public int prove(int i, int n) {
        if (n > log.syncedSize() || i < 0 || i >= n) {
            return NONE;
        }
        proof.clear();
        Tree.addInclusion(log, proof, i, n);
        return proof.length();
    }

    public int extend(int m, int n) {
        if (n > log.syncedSize() || m < 1 || m > n) {
            return NONE;
        }
        proof.clear();
        Tree.addConsistency(log, proof, m, n);
        return proof.length();
    }

    public boolean put(int h) {
        return proof.add(h);
    }

    public boolean take() {
        return proof.removeLast();
    }

    public int pad(int k) {
        return proof.intAt(k);
    }

    public boolean included(int leaf, int i, int n, int head) {
        return n >= 1 && n <= MOST_SHOWN && i >= 0 && i < n && proof.showsInclusion(leaf, i, n, head);
    }

    public boolean consistent(int old, int m, int head, int n) {
        return n >= 1 && n <= MOST_SHOWN && m >= 1 && m <= n && proof.showsConsistency(old, m, head, n);
    }

    public int cell(int k) {
        return disk.cellAt(k);
    }

    public int writes() {
        return disk.writesDone();
    }

    private int commitNew(int key) {
        if (isPoor()) {
            return POOR;
        }
        if (!log.append(key, draft)) {
            return FULL;
        }
        draft.clear();
        return log.size() - 1;
    }

    private boolean isPoor() {
        for (int j = 0; j < draft.size(); j++) {
            int account = draft.accountAt(j);
            int then = log.total(account, 0, log.size(), true) + draft.change(account);
            if (then < -limits[account]) {
                return true;
            }
        }
        return false;
    }

    private boolean writeBlock(int block) {
        if (disk.write(log, block)) {
            return true;
        }
        losePower();
        return false;
    }

    /** What was only in memory is gone; with the log empty, all is answered as without entries. */
    private void losePower() {
        running = false;
        log.clear();
        draft.clear();
    }

    private static boolean isAccount(int account) {
        return account >= 0 && account < ACCOUNTS;
    }

    private static boolean isAmount(int amount) {
        return amount >= -MOST_AMOUNT && amount <= MOST_AMOUNT;
    }

    private static int entryCells(int legs) {
        return 3 + 2 * legs;
    }

    private static int mix(int a, int b) {
        int x = a * 16777619 + b;
        int y = (x ^ (x >>> 15)) * 739982445;
        return y ^ (y >>> 12);
    }

    private static int node(int l, int r) {
        return mix(mix(1, l), r);
    }

    /** The greatest power of 2 that is less than n, for n from 2 to 1000. */
    private static int split(int n) {
        int k = 1;
        for (int level = 0; level < LEVELS && 2 * k < n; level++) {
            k = 2 * k;
        }
        return k;
    }

    /** The legs that wait for a commit. */
    private static final class Draft {
        private final int[] accounts;
        private final int[] amounts;
        private int count;

        Draft() {
            accounts = new int[MOST_LEGS];
            amounts = new int[MOST_LEGS];
        }

        boolean add(int account, int amount) {
            if (count >= MOST_LEGS) {
                return false;
            }
            accounts[count] = account;
            amounts[count] = amount;
            count++;
            return true;
        }

        void clear() {
            count = 0;
        }

        int size() {
            return count;
        }

        int accountAt(int j) {
            return j >= 0 && j < count ? accounts[j] : 0;
        }

        int amountAt(int j) {
            return j >= 0 && j < count ? amounts[j] : 0;
        }

        boolean isEven() {
            int sum = 0;
            for (int j = 0; j < count; j++) {
                sum += amounts[j];
            }
            return count >= FEWEST_LEGS && sum == 0;
        }

        int change(int account) {
            int sum = 0;
            for (int j = 0; j < count; j++) {
                if (accounts[j] == account) {
                    sum += amounts[j];
                }
            }
            return sum;
        }
    }

    /** The entries in memory, held in the very cells that a write puts on the disk. */
    private static final class Log {
        private final int[] cells;
        private final int[] starts;
        private final int[] leaves;
        private int count;
        private int end;
        private int syncedCount;
        private int syncedEnd;

        Log() {
            cells = new int[CELLS];
            starts = new int[MOST_ENTRIES];
            leaves = new int[MOST_ENTRIES];
        }

        int size() {
            return count;
        }

        int syncedSize() {
            return syncedCount;
        }

        int cellAt(int k) {
            return k >= 0 && k < CELLS ? cells[k] : 0;
        }

        int leafOf(int i) {
            return i >= 0 && i < count ? leaves[i] : 0;
        }

        boolean endsInBlock() {
            return end < CELLS;
        }

        int endBlock() {
            return blockOf(end);
        }

        int syncedBlock() {
            return blockOf(syncedEnd);
        }

        void markSynced() {
            syncedCount = count;
            syncedEnd = end;
        }

        void clear() {
            count = 0;
            end = 0;
            markSynced();
            clearBehindEnd();
        }

        /** Whether there was room for the entry; if not, nothing is changed. */
        boolean append(int key, Draft draft) {
            int legs = draft.size();
            if (count >= MOST_ENTRIES || end + entryCells(legs) > CELLS) {
                return false;
            }
            cells[end] = legs;
            cells[end + 1] = key;
            for (int j = 0; j < legs; j++) {
                cells[accountCell(end, j)] = draft.accountAt(j);
                cells[amountCell(end, j)] = draft.amountAt(j);
            }
            cells[sealCell(end)] = mix(lastSeal(), leafFrom(end));
            acceptNext();
            return true;
        }

        void load(Disk disk) {
            clear();
            for (int k = 0; k < CELLS; k++) {
                cells[k] = disk.cellAt(k);
            }
            for (int n = 0; n < MOST_ENTRIES && nextIsSound(); n++) {
                acceptNext();
            }
            markSynced();
            clearBehindEnd();
        }

        int firstWith(int key) {
            for (int i = 0; i < count; i++) {
                if (cells[starts[i] + 1] == key) {
                    return i;
                }
            }
            return NONE;
        }

        boolean hasLegsOf(Draft draft, int i) {
            if (i < 0 || i >= count || cells[starts[i]] != draft.size()) {
                return false;
            }
            int start = starts[i];
            for (int j = 0; j < draft.size(); j++) {
                if (cells[accountCell(start, j)] != draft.accountAt(j)
                        || cells[amountCell(start, j)] != draft.amountAt(j)) {
                    return false;
                }
            }
            return true;
        }

        /** The legs of an account in entries from .. to - 1: the sum of their amounts, or how many. */
        int total(int account, int from, int to, boolean sum) {
            int total = 0;
            int behind = Math.min(to, count);
            for (int i = Math.max(from, 0); i < behind; i++) {
                total += totalAt(starts[i], account, sum);
            }
            return total;
        }

        private int totalAt(int start, int account, boolean sum) {
            int total = 0;
            for (int j = 0; j < cells[start]; j++) {
                if (cells[accountCell(start, j)] == account) {
                    total += sum ? cells[amountCell(start, j)] : 1;
                }
            }
            return total;
        }

        /** Makes the entry that stands whole in the cells from the log's end on the next one. */
        private void acceptNext() {
            starts[count] = end;
            leaves[count] = leafFrom(end);
            count++;
            end += entryCells(cells[end]);
        }

        private boolean nextIsSound() {
            return nextFits() && nextLegsAreSound() && cells[sealCell(end)] == mix(lastSeal(), leafFrom(end));
        }

        private boolean nextFits() {
            return end < CELLS
                    && cells[end] >= FEWEST_LEGS
                    && cells[end] <= MOST_LEGS
                    && end + entryCells(cells[end]) <= CELLS;
        }

        private boolean nextLegsAreSound() {
            int sum = 0;
            for (int j = 0; j < cells[end]; j++) {
                int amount = cells[amountCell(end, j)];
                if (!isAccount(cells[accountCell(end, j)]) || !isAmount(amount)) {
                    return false;
                }
                sum += amount;
            }
            return sum == 0;
        }

        private int leafFrom(int start) {
            int h = mix(0, cells[start + 1]);
            for (int j = 0; j < cells[start]; j++) {
                h = mix(h, 16 * cells[amountCell(start, j)] + cells[accountCell(start, j)]);
            }
            return h;
        }

        /** An entry's last cell is its seal, so the newest seal stands just before the end. */
        private int lastSeal() {
            return end > 0 ? cells[end - 1] : 0;
        }

        private void clearBehindEnd() {
            for (int k = end; k < CELLS; k++) {
                cells[k] = 0;
            }
        }

        private int sealCell(int start) {
            return start + entryCells(cells[start]) - 1;
        }

        private static int accountCell(int start, int j) {
            return start + 2 + 2 * j;
        }

        private static int amountCell(int start, int j) {
            return start + 3 + 2 * j;
        }

        private static int blockOf(int k) {
            return Math.min(k / BLOCK_CELLS, LAST_BLOCK);
        }
    }

    /** The hashes over a log's entries. Each level down makes the row shorter; levels bounds it. */
    private static final class Tree {
        static int headOf(Log log, int n) {
            return n == 0 ? mix(2, 0) : hash(log, 0, n, LEVELS);
        }

        static void addInclusion(Log log, Pad pad, int i, int n) {
            inclusion(log, pad, i, 0, n, LEVELS);
        }

        static void addConsistency(Log log, Pad pad, int m, int n) {
            consistency(log, pad, m, 0, n, true, LEVELS);
        }

        private static int hash(Log log, int first, int n, int levels) {
            if (n <= 1 || levels <= 0) {
                return log.leafOf(first);
            }
            int k = split(n);
            return node(hash(log, first, k, levels - 1), hash(log, first + k, n - k, levels - 1));
        }

        private static void inclusion(Log log, Pad pad, int i, int first, int n, int levels) {
            if (n <= 1 || levels <= 0) {
                return;
            }
            int k = split(n);
            if (i < k) {
                inclusion(log, pad, i, first, k, levels - 1);
                pad.add(hash(log, first + k, n - k, levels - 1));
            } else {
                inclusion(log, pad, i - k, first + k, n - k, levels - 1);
                pad.add(hash(log, first, k, levels - 1));
            }
        }

        private static void consistency(Log log, Pad pad, int m, int first, int n, boolean own, int levels) {
            if (m == n || levels <= 0) {
                if (!own) {
                    pad.add(hash(log, first, n, levels));
                }
                return;
            }
            int k = split(n);
            if (m <= k) {
                consistency(log, pad, m, first, k, own, levels - 1);
                pad.add(hash(log, first + k, n - k, levels - 1));
            } else {
                consistency(log, pad, m - k, first + k, n - k, false, levels - 1);
                pad.add(hash(log, first, k, levels - 1));
            }
        }
    }

    /** What outlives a loss of power, and the power itself. */
    private static final class Disk {
        private final int[] cells;
        private int done;
        /** At which write from now on power fails; 0 for at none. */
        private int failing;

        Disk() {
            cells = new int[CELLS];
        }

        void failAt(int n) {
            failing = n;
        }

        int writesDone() {
            return done;
        }

        int cellAt(int k) {
            return k >= 0 && k < CELLS ? cells[k] : 0;
        }

        /** Whether the write was done; if not, power failed at it. */
        boolean write(Log log, int block) {
            if (failing > 0) {
                failing--;
                if (failing == 0) {
                    return false;
                }
            }
            int first = block * BLOCK_CELLS;
            for (int k = first; k < first + BLOCK_CELLS; k++) {
                cells[k] = log.cellAt(k);
            }
            done++;
            return true;
        }
    }

    /**
     * A proof. How many ints a proof must have follows from its numbers alone, so a pad of another
     * length shows nothing, and one of the right length always shows something.
     */
    private static final class Pad {
        private final int[] ints;
        private int count;

        Pad() {
            ints = new int[PAD_INTS];
        }

        void clear() {
            count = 0;
        }

        int length() {
            return count;
        }

        int intAt(int k) {
            return k >= 0 && k < count ? ints[k] : 0;
        }

        boolean add(int h) {
            if (count >= PAD_INTS) {
                return false;
            }
            ints[count] = h;
            count++;
            return true;
        }

        boolean removeLast() {
            if (count <= 0) {
                return false;
            }
            count--;
            return true;
        }

        boolean showsInclusion(int leaf, int i, int n, int head) {
            return count == inclusionLength(i, n) && shownAbove(this, leaf, i, n, count) == head;
        }

        boolean showsConsistency(int old, int m, int head, int n) {
            int steps = consistencySteps(m, n);
            boolean own = isOwn(m, n);
            if (count != (own ? steps : steps + 1)) {
                return false;
            }
            int base = own ? old : intAt(0);
            return shownOld(this, base, m, n, count) == old && shownNew(this, base, m, n, count) == head;
        }

        /** The hash that the leaf and the pad's first ints, so many as used, show. */
        private static int shownAbove(Pad pad, int leaf, int i, int n, int used) {
            if (n <= 1 || used <= 0) {
                return leaf;
            }
            int k = split(n);
            int last = pad.intAt(used - 1);
            if (i < k) {
                return node(shownAbove(pad, leaf, i, k, used - 1), last);
            }
            return node(last, shownAbove(pad, leaf, i - k, n - k, used - 1));
        }

        private static int shownOld(Pad pad, int base, int m, int n, int used) {
            if (m == n || used <= 0) {
                return base;
            }
            int k = split(n);
            if (m <= k) {
                return shownOld(pad, base, m, k, used - 1);
            }
            return node(pad.intAt(used - 1), shownOld(pad, base, m - k, n - k, used - 1));
        }

        private static int shownNew(Pad pad, int base, int m, int n, int used) {
            if (m == n || used <= 0) {
                return base;
            }
            int k = split(n);
            int last = pad.intAt(used - 1);
            if (m <= k) {
                return node(shownNew(pad, base, m, k, used - 1), last);
            }
            return node(last, shownNew(pad, base, m - k, n - k, used - 1));
        }

        private static int inclusionLength(int i, int n) {
            int length = 0;
            while (n > 1 && length < PAD_INTS) {
                int k = split(n);
                if (i < k) {
                    n = k;
                } else {
                    i -= k;
                    n -= k;
                }
                length++;
            }
            return length;
        }

        /** How often the row is split until the older one is the whole of it. */
        private static int consistencySteps(int m, int n) {
            int steps = 0;
            while (m != n && steps < PAD_INTS) {
                int k = split(n);
                if (m <= k) {
                    n = k;
                } else {
                    m -= k;
                    n -= k;
                }
                steps++;
            }
            return steps;
        }

        /** Whether the older row is met whole on the way down, so that its hash is in no int. */
        private static boolean isOwn(int m, int n) {
            for (int level = 0; level < LEVELS && m != n; level++) {
                n = split(n);
                if (m > n) {
                    return false;
                }
            }
            return true;
        }
    }
}
