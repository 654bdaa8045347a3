import java.lang.management.ManagementFactory;

/** All calls live in one room: behind the constructor none makes an object, whatever it is asked. */
public final class RoomTest {
  private static final String SKY = ".c..c.#/gcc.cg./cccs.c./c.cg>>c/.s>.>g.=2f993b993n994a991";
  private static final com.sun.management.ThreadMXBean BEAN =
      (com.sun.management.ThreadMXBean) ManagementFactory.getThreadMXBean();

  private static long sum = 0;

  private static void everyCall(WaxWings x, int i) {
    sum += x.row(i, 6) + x.lay(i, 2, 1) + x.at(i, 0) + x.copy(i, 0, i, 1, 5) + x.mean(i) + x.tear(5) + x.text(3, 9);
    sum += x.put(3, 1, 46) + x.fault(0) + x.fault(3) + x.flyer(i, 3) + x.mark(i, 4) + x.air(i, i) + x.sun(2);
    sum += x.letters(i, 1) + x.over() + x.can(i) + x.keep(0) + x.judge(i, i) + x.drip(i, i) + x.plan(i, i, 5);
    sum += x.soonest(i, 4) + x.lightest(i, 4) + x.ways(i) + x.heights(i, 3) + x.nth(i, 5, 4) + x.wax(i) + x.strength(i);
    sum += x.most(i) + x.hottest(i) + x.kinds(i) + x.post(7, 4) + x.odds(i, 5) + x.choice(i, 7) + x.boats(3, 4);
    sum += x.feathers(i, 6) + x.lots(i, 9, 77) + x.beat(i, 1) + x.undo(0) + x.on(0) + x.sky(0) + x.asked() + x.upper();
    sum += x.lower() + x.count(5) + x.finding() + x.findings(1) + x.digest();
  }

  private static long bytesOfCalls(WaxWings x) {
    long id = Thread.currentThread().getId();
    long before = BEAN.getThreadAllocatedBytes(id);
    for (int n = 0; n < 40; n++) everyCall(x, n % 4);
    return BEAN.getThreadAllocatedBytes(id) - before;
  }

  public static void main(String[] args) {
    WaxWings x = new WaxWings();
    x.text(0, SKY.length());
    for (int i = 0; i < SKY.length(); i++) x.put(0, i, SKY.charAt(i));
    if (x.sky(0) != 4) { System.out.println("no sky"); System.exit(1); }
    bytesOfCalls(x);
    long bytes = bytesOfCalls(x);
    System.out.println(bytes + " bytes made by 1960 calls");
    if (bytes > 4096) System.exit(1);
  }
}
