import com.sun.management.ThreadMXBean;
import java.lang.management.ManagementFactory;

/** All calls of a run live in one room: an object is made once, and its calls make nothing more. */
public final class RoomTest {
  private static final ThreadMXBean THREADS = (ThreadMXBean) ManagementFactory.getThreadMXBean();

  private static long made() {
    return THREADS.getThreadAllocatedBytes(Thread.currentThread().getId());
  }

  /** 512 of the dearest calls. */
  private static void dearestRun(Trial trial, String text) {
    MarkovDesk desk = trial.desk;
    for (int i = 0; i < 8; i++) {
      desk.explore();
      desk.solve(false);
      desk.solve(true);
      for (int s = 0; s < 20; s++) {
        desk.within(false, s, 12);
        desk.value(true, s);
        desk.claimResult(s);
      }
      desk.check(true);
    }
  }

  public static void main(String[] args) {
    String text = ModelMaker.longest();
    Trial warm = new Trial();
    warm.text(text);
    dearestRun(warm, text);
    long before = made();
    Trial trial = new Trial();
    long object = made() - before;
    System.out.println("octets of an object: " + object);
    // 7.3 million fields and elements in all; most elements are ints
    Trial.due("an object is small", object < 500000, true);
    trial.feed(text);
    before = made();
    trial.desk.end(text.length());
    dearestRun(trial, text);
    long calls = made() - before;
    System.out.println("octets of 512 calls: " + calls);
    Trial.due("calls make nothing", calls < 20000, true);
    Trial.finish();
  }
}
