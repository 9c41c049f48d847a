import java.lang.management.ManagementFactory;

/** A run has one room for all that its calls make: an object makes its rows once, a call makes nothing. */
public final class RoomTest {
  private static final Due due = new Due("RoomTest");
  // Some 2,500 elements of four bytes, and the heads of some fifty objects and arrays.
  private static final long MOST_OF_ONE = 16_000;

  public static void main(String[] args) {
    AfraidInk x = readyOne();
    callAll(x);
    long before = allocated();
    AfraidInk y = new AfraidInk();
    long made = allocated() - before;
    due.is("an object takes " + made + " bytes", made <= MOST_OF_ONE, true);
    due.is("it is one", y.count(0), 0);
    before = allocated();
    callAll(x);
    // What the counter of the machine itself makes may come in once.
    long more = allocated() - before;
    due.is("calls take " + more + " bytes", more <= 2_000, true);
    due.end();
  }

  private static long allocated() {
    com.sun.management.ThreadMXBean bean = (com.sun.management.ThreadMXBean) ManagementFactory.getThreadMXBean();
    return bean.getThreadAllocatedBytes(Thread.currentThread().getId());
  }

  private static AfraidInk readyOne() {
    AfraidInk x = new AfraidInk();
    for (int b = 0; b < 8; b++) {
      x.bottle(b, b % 5);
      x.pressed(b, 100 * b);
    }
    x.nerve(45);
    Due.letter(x, "2(3a2(b2c)d)efgh");
    Due.law(x, "f5*[u+1](b=0&w>2|n=3);e3+u%[b+1](k<3);x(d%7=b&!i=3)");
    return x;
  }

  private static void callAll(AfraidInk x) {
    for (int k = 0; k < 20; k++) {
      x.bottle(k & 7, 1);
      x.pressed(k & 7, k);
      x.ink(k & 7, 999);
      x.nerve(45);
      x.feed(0x663528A0, 0, 0, 0, 0);
      x.law(4);
      x.feed(0x66352862, 0x3D302900, 0, 0, 0);
      x.law(7);
      x.feed(0x613D353B, 0x627E6300, 0, 0, 0);
      x.grief(k & 7, 7);
      x.feed(0x32286162, 0x33632900, 0, 0, 0);
      x.letter(7);
      x.days(5);
      x.tried(5, 0);
      x.used(k & 7, 0, 5);
      x.changes(100);
      x.leastSalt(k & 7);
      x.mixture(0, 1, 0);
      x.feed(0x00010100, 0x02000301, 0, 0, 0);
      x.whose(4);
      x.next(255, 0);
      x.guard(0);
      x.feed(0x00010203, 0x04050000, 0, 0, 0);
      x.training(k & 7, 6, 0);
      x.borne(0);
      x.feed(0x00010203, 0x04050000, 0, 0, 0);
      x.treaty(2, 2, 2);
      x.feed(0x00010203, 0x04050000, 0, 0, 0);
      x.forgery(6, 2);
      x.feed(0x01020003, 0x05040000, 0, 0, 0);
      x.rings(6, 1);
      x.keep();
      x.undo();
      x.check(0);
      x.count(0);
      x.bottleIs(0, 3);
      x.fear(0, 0, 2);
      x.rhyme(0);
      x.seed(k);
    }
  }
}
