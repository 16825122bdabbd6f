import java.util.Random;

/** Calls in any order with any arguments, 512 on an object: MarkovDesk answers and throws as the reference does. */
public final class RandomCallsTest {
  private final Random random;
  private final Both both;
  private final long seed;

  private RandomCallsTest(long seed) {
    this.seed = seed;
    random = new Random(seed);
    both = new Both("calls " + seed);
  }

  private int some(int most) {
    switch (random.nextInt(12)) {
      case 0: return -1;
      case 1: return random.nextInt();
      case 2: return random.nextBoolean() ? Integer.MAX_VALUE : Integer.MIN_VALUE;
      case 3: return most;
      default: return random.nextInt(most);
    }
  }

  private long someLong() {
    switch (random.nextInt(6)) {
      case 0: return random.nextLong();
      case 1: return Long.MAX_VALUE;
      case 2: return Long.MIN_VALUE;
      default: return random.nextInt(4);
    }
  }

  private void text() {
    ModelMaker maker = new ModelMaker(random.nextLong());
    String text;
    switch (random.nextInt(5)) {
      case 0: text = maker.bend(maker.model()); break;
      case 1: text = maker.heap(); break;
      case 2: text = maker.chain(3 + random.nextInt(8), 2); break;
      default: text = maker.model();
    }
    if (text.length() > 1500) {
      return;
    }
    both.feed(text);
    both.end(random.nextInt(8) == 0 ? some(text.length() + 1) : text.length());
  }

  private void call() {
    boolean least = random.nextBoolean();
    int s = some(4);
    switch (random.nextInt(16)) {
      case 0: if (random.nextInt(3) == 0) text(); break;
      case 1: both.feed("mdp module \u0001"); break;
      case 2: both.end(some(30)); break;
      case 3: if (random.nextBoolean()) both.explore(); break;
      case 4: both.state(s, some(6), random.nextInt(3)); break;
      case 5: both.state(s, some(6), some(3)); break;
      case 6: both.outcome(s, some(2), some(2)); break;
      case 7: both.solve(least); break;
      case 8: both.value(least, s); break;
      case 9: both.within(least, s, some(13)); break;
      case 10: both.claim(s, someLong(), someLong()); break;
      case 11: both.value(least, s); both.claimResult(s); break;
      case 12: both.claimResult(s); break;
      case 13: both.check(least); break;
      case 14: both.result(); break;
      default: both.counts();
    }
  }

  private int run() {
    text();
    both.explore();
    for (int i = 0; i < 2000 && both.calls < 512 && both.wrong == 0; i++) {
      call();
    }
    if (both.wrong > 0) {
      System.out.println("seed " + seed);
    }
    return both.wrong;
  }

  public static void main(String[] args) {
    int runs = args.length > 0 ? Integer.parseInt(args[0]) : 3000;
    long first = args.length > 1 ? Long.parseLong(args[1]) : 0;
    int wrong = 0;
    for (long seed = first; seed < first + runs && wrong < 20; seed++) {
      wrong += new RandomCallsTest(seed).run();
    }
    System.exit(wrong > 0 ? 1 : 0);
  }
}
