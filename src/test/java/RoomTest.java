import com.sun.management.ThreadMXBean;
import java.lang.management.ManagementFactory;

/** All calls of a run live in one room: what an object makes, it makes in its constructor, and that is little. */
public final class RoomTest {
  private static final ThreadMXBean COUNTER = (ThreadMXBean) ManagementFactory.getThreadMXBean();

  private static long taken() {
    return COUNTER.getThreadAllocatedBytes(Thread.currentThread().getId());
  }

  /** A run of calls that uses every method, with as many children and gifts as there may be. */
  private static int run(WinterToys toys) {
    int sum = 0;
    for (int i = 0; i < 40; i++) {
      sum += toys.report(i, i % 18, i % 7, i % 5, 1 + i % 24);
    }
    for (int i = 0; i < 60; i++) {
      sum += toys.gifts(i % 10, 1 + i % 23, 1 + i % 2);
    }
    sum += toys.call(3, 20) + toys.annul(50);
    for (int i = 0; i < 5; i++) {
      sum += toys.give() + toys.blind() + toys.given(2) + toys.left(1) + toys.lacks(0, 17) + toys.price(i);
      sum += toys.spend(500) + toys.spent() + toys.right() + toys.walks(3) + toys.bag(2) + toys.queue(5, 2, 1);
      sum += toys.label(i) + toys.at(0) + toys.gets(0) + (toys.as(100 - i) ? 1 : 0);
      sum += toys.all(6) + toys.child(3) + toys.of(1, 9) + toys.wish(1, 0, 0) + toys.may(1, 1) + toys.points(1, 1);
      sum += toys.name(false, 0, 0) + toys.marked(0, 0) + toys.fault(0);
    }
    return sum;
  }

  private static String text() {
    StringBuilder rules = new StringBuilder();
    for (char c = 'a'; c < 'k'; c++) {
      rules.append("kind k").append(c).append(" worth 9 price 3 at 7 is m;");
    }
    return rules + "gifts 3 for all;likes age*5-school of m for house>2;likes 3 of ka or kc for all;even 5;";
  }

  public static void main(String[] args) {
    run(Check.barn(text()));
    long before = taken();
    WinterToys toys = new WinterToys();
    long made = taken() - before;
    Check.due("an object takes " + made + " bytes", made < 100000, true);
    Check.text(toys, text());
    before = taken();
    int statements = toys.rules();
    int sum = run(toys);
    long more = taken() - before;
    Check.due("rules()", statements, 14);
    Check.due("something was answered", sum != 0, true);
    Check.due("calls take " + more + " bytes", more < 2000, true);
    Check.finish("RoomTest");
  }
}
