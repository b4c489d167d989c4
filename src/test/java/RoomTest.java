import java.lang.management.ManagementFactory;

/** No call makes anything: all that an object holds is made with it. */
public final class RoomTest {
  private static final String TEXT = "first (a-item)*(b<n)+(a+1)*(not b<n);second b+1 or a;says a-b*(b=n)-place*0;";

  private static FiftyOneCards full() {
    FiftyOneCards x = new FiftyOneCards();
    x.deal(52);
    for (int i = 0; i < 5; i++) x.head(50 + i, 16, 1378);
    x.fill(-1, 0);
    for (int i = 0; i < 3; i++) Due.read(x, TEXT);
    x.force(1);
    x.film(0, 0, 40);
    x.sheet(1, 2, 40);
    return x;
  }

  private static long dearCalls(FiftyOneCards x) {
    long all = 0;
    for (int i = 0; i < 12; i++) {
      all += x.begin(i % 5, 0) + x.begins(0, i % 5, 0) + x.kinds(0, i % 5, 2) + x.laws(0, 1) + x.whose(0);
      all += x.least(1) + x.who(1) + x.right(2, 1) + x.states(0, 6, 3) + x.drop(0, 1) + x.often(0, 20, 1);
      all += x.odds(i, 30, 1, 0) + x.drawn(i, 1, 1) + x.image() + x.back() + x.share(0, 1) + x.same(0, 1);
      all += x.feed(5, 'f', 'i', 'r', 's', 't') + x.feed(3, ' ', 'a', ';', 0, 0) + x.text();
      all += x.copy(0, 0, 1, 0, 40) + x.cardsBy(0, 2, 0, 40) + x.deal(52) + x.fill(3, 1) + x.turn(0) + x.two(0);
      all += x.truth(2) + x.truth(5) + x.missing(0) + x.keep(0, 9, 0) + x.judge(0, 1) + x.film(2, 1, 40) + x.sheet(3, 0, 40);
    }
    return all;
  }

  public static void main(String[] args) {
    com.sun.management.ThreadMXBean bean =
        (com.sun.management.ThreadMXBean) ManagementFactory.getThreadMXBean();
    long here = Thread.currentThread().getId();
    dearCalls(full());
    FiftyOneCards x = full();
    long before = bean.getThreadAllocatedBytes(here);
    dearCalls(x);
    long made = bean.getThreadAllocatedBytes(here) - before;
    Due.due("bytes made by calls, but for the counting's own (4096)", made / 4096, 0);
    before = bean.getThreadAllocatedBytes(here);
    new FiftyOneCards();
    made = bean.getThreadAllocatedBytes(here) - before;
    Due.due("bytes made with an object, by 32768", made / 32768, 0);
    Due.end("RoomTest");
  }
}
