import java.lang.management.ManagementFactory;

/** All calls of a run live in one room, so only the constructor makes rows; the calls make nothing. */
public final class RoomTests {
  private static final long MOST_FOR_OBJECT = 8000;
  private static final long MOST_FOR_CALLS = 200;

  private static long madeSoFar() {
    return ((com.sun.management.ThreadMXBean) ManagementFactory.getThreadMXBean())
        .getThreadAllocatedBytes(Thread.currentThread().getId());
  }

  /** Less than 512 calls, with each method of the face; the sum is there so that none is left out. */
  private static int calls(SealedLedger x) {
    int sum = x.limit(0, 99999) ? 1 : 0;
    for (int i = 0; i < 70; i++) {
      x.leg(0, -1);
      x.leg(1, 1);
      sum += x.commit(i);
    }
    x.drop();
    sum += x.sync();
    for (int i = 0; i < 30; i++) {
      sum += x.prove(i, 70) + x.extend(i + 1, 70) + x.head(70) + x.pad(0) + x.leaf(i);
      sum += x.included(i, i, 1000, 5) || x.consistent(i, i + 1, 5, 1000) ? 1 : 0;
    }
    for (int i = 0; i < 5; i++) {
      x.fail(1);
      sum += x.sync() + x.recover() + x.entries() + x.synced() + x.writes() + x.cell(i);
      sum += x.balance(0, 70) + x.statement(1, 0, 70, true) + x.find(69);
      sum += x.on() && x.put(i) && x.take() ? 1 : 0;
    }
    return sum;
  }

  public static void main(String[] args) {
    int wrong = 0;
    int sum = calls(new SealedLedger()) + (int) (madeSoFar() & 1);
    long start = madeSoFar();
    long before = madeSoFar();
    SealedLedger x = new SealedLedger();
    long made = madeSoFar();
    sum += calls(x);
    long called = madeSoFar();
    long asking = before - start;
    long forObject = made - before - asking;
    long forCalls = called - made - asking;
    if (forObject > MOST_FOR_OBJECT) {
      wrong++;
      System.out.println("an object takes " + forObject + " bytes, " + MOST_FOR_OBJECT + " are enough");
    }
    if (forCalls > MOST_FOR_CALLS) {
      wrong++;
      System.out.println("the calls made " + forCalls + " bytes of objects, none are due");
    }
    System.out.println(wrong == 0 ? "the room is as due (" + sum + ")" : wrong + " rooms are not as due");
    if (wrong != 0) System.exit(1);
  }
}
