import java.math.BigInteger;

/**
 * Takes all POLICIES of small models, one after the other: the GREATEST VALUES are the greatest of theirs, the LEAST
 * the least, and the POLICIES that are told attain them. It knows nothing of how a POLICY is made better.
 */
public final class AllPoliciesTest {
  private static final int POLICIES_MOST = 2000;

  private final String name;
  private final String text;
  private final int states;
  private final boolean[] target;
  private final int[] choices;
  // Of each STATE and CHOICE how probable each STATE is after one step.
  private final BigInteger[][][][] steps;
  private final int[] policy;
  private MarkovDesk desk;

  /** Numbers are held as a numerator and a denominator. */
  private static BigInteger[] number(long top) {
    return new BigInteger[] {BigInteger.valueOf(top), BigInteger.ONE};
  }

  private static BigInteger[] cut(BigInteger top, BigInteger below) {
    BigInteger common = top.gcd(below).multiply(BigInteger.valueOf(below.signum()));
    return new BigInteger[] {top.divide(common), below.divide(common)};
  }

  private static BigInteger[] sum(BigInteger[] a, BigInteger[] b) {
    return cut(a[0].multiply(b[1]).add(b[0].multiply(a[1])), a[1].multiply(b[1]));
  }

  private static BigInteger[] times(BigInteger[] a, BigInteger[] b) {
    return cut(a[0].multiply(b[0]), a[1].multiply(b[1]));
  }

  private static BigInteger[] over(BigInteger[] a, BigInteger[] b) {
    return cut(a[0].multiply(b[1]), a[1].multiply(b[0]));
  }

  private static BigInteger[] negative(BigInteger[] a) {
    return new BigInteger[] {a[0].negate(), a[1]};
  }

  private static int compare(BigInteger[] a, BigInteger[] b) {
    return a[0].multiply(b[1]).compareTo(b[0].multiply(a[1]));
  }

  private static String text(BigInteger[][] row) {
    StringBuilder b = new StringBuilder();
    for (BigInteger[] x : row) {
      b.append(x[0]).append('/').append(x[1]).append(' ');
    }
    return b.toString();
  }

  private AllPoliciesTest(String name, String text) {
    this.name = name;
    this.text = text;
    renew();
    states = desk.count(4);
    target = new boolean[states];
    choices = new int[states];
    policy = new int[states];
    steps = new BigInteger[states][][][];
    for (int s = 0; s < states; s++) {
      renew();
      target[s] = desk.state(s, 1, 0) == 1;
      choices[s] = desk.state(s, 0, 0);
      steps[s] = new BigInteger[choices[s]][][];
      for (int c = 0; c < choices[s]; c++) {
        steps[s][c] = step(s, c);
      }
    }
  }

  /** Another object, for nothing is promised of one behind its 512th call. */
  private void renew() {
    Trial trial = new Trial();
    trial.text(text);
    trial.desk.explore();
    trial.desk.solve(false);
    trial.desk.solve(true);
    desk = trial.desk;
  }

  private BigInteger part(boolean below) {
    BigInteger number = BigInteger.ZERO;
    for (int k = desk.bits(below) / 31; k >= 0; k--) {
      number = number.shiftLeft(31).or(BigInteger.valueOf(desk.part(below, k)));
    }
    return number;
  }

  private BigInteger[] result() {
    return new BigInteger[] {part(false), part(true)};
  }

  private BigInteger[][] step(int s, int c) {
    BigInteger[][] row = new BigInteger[states][];
    for (int t = 0; t < states; t++) {
      row[t] = number(0);
    }
    for (int o = 0; o < desk.state(s, 5, c); o++) {
      int t = desk.outcome(s, c, o);
      row[t] = sum(row[t], result());
    }
    return row;
  }

  /** Which STATES can come to the TARGET by the POLICY. */
  private boolean[] nearing() {
    boolean[] near = target.clone();
    for (int round = 0; round <= states; round++) {
      for (int s = 0; s < states; s++) {
        for (int t = 0; t < states; t++) {
          near[s] |= near[t] && steps[s][policy[s]][t][0].signum() > 0;
        }
      }
    }
    return near;
  }

  /** The VALUES of the POLICY, by Gauss's and Jordan's elimination. */
  private BigInteger[][] values() {
    boolean[] near = nearing();
    BigInteger[][][] rows = new BigInteger[states][states + 1][];
    for (int s = 0; s < states; s++) {
      boolean free = near[s] && !target[s];
      for (int t = 0; t < states; t++) {
        rows[s][t] = sum(number(s == t ? 1 : 0), free ? negative(steps[s][policy[s]][t]) : number(0));
      }
      rows[s][states] = number(target[s] ? 1 : 0);
    }
    for (int k = 0; k < states; k++) {
      int pivot = k;
      while (rows[pivot][k][0].signum() == 0) {
        pivot++;
      }
      BigInteger[][] row = rows[pivot];
      rows[pivot] = rows[k];
      rows[k] = row;
      BigInteger[] own = row[k];
      for (int j = k; j <= states; j++) {
        row[j] = over(row[j], own);
      }
      for (int i = 0; i < states; i++) {
        BigInteger[] factor = negative(rows[i][k]);
        for (int j = k; j <= states && i != k && factor[0].signum() != 0; j++) {
          rows[i][j] = sum(rows[i][j], times(factor, row[j]));
        }
      }
    }
    BigInteger[][] found = new BigInteger[states][];
    for (int s = 0; s < states; s++) {
      found[s] = rows[s][states];
    }
    return found;
  }

  private int policies() {
    long many = 1;
    for (int s = 0; s < states && many <= POLICIES_MOST; s++) {
      many *= target[s] ? 1 : choices[s];
    }
    return many > POLICIES_MOST ? 0 : (int) many;
  }

  private void take(int number) {
    int rest = number;
    for (int s = 0; s < states; s++) {
      policy[s] = target[s] ? 0 : rest % choices[s];
      rest /= target[s] ? 1 : choices[s];
    }
  }

  private BigInteger[][] told(boolean least) {
    renew();
    BigInteger[][] row = new BigInteger[states][];
    for (int s = 0; s < states; s++) {
      boolean sure = desk.value(least, s);
      row[s] = result();
      Trial.due(name + ": value(" + least + ", " + s + ") is 1", sure, row[s][0].equals(row[s][1]));
    }
    return row;
  }

  private void takeTold(boolean least) {
    for (int s = 0; s < states; s++) {
      policy[s] = desk.state(s, least ? 3 : 2, 0);
    }
  }

  /** In so many steps, one after the other. */
  private void within(boolean least) {
    takeTold(least);
    BigInteger[][] now = new BigInteger[states][];
    for (int s = 0; s < states; s++) {
      now[s] = number(target[s] ? 1 : 0);
    }
    for (int n = 0; n <= 12; n++) {
      BigInteger[][] next = new BigInteger[states][];
      renew();
      for (int s = 0; s < states; s++) {
        boolean none = desk.within(least, s, n);
        String what = name + ": within(" + least + ", " + s + ", " + n + ")";
        Trial.due(what, text(new BigInteger[][] {result()}), text(new BigInteger[][] {now[s]}));
        Trial.due(what, none, now[s][0].signum() == 0);
        next[s] = number(target[s] ? 1 : 0);
        BigInteger[][] row = steps[s][policy[s]];
        for (int t = 0; t < states && !target[s]; t++) {
          next[s] = sum(next[s], times(row[t], now[t]));
        }
      }
      now = next;
    }
  }

  /** Answers how many POLICIES were taken. */
  private int run() {
    int many = policies();
    BigInteger[][] greatest = null;
    BigInteger[][] least = null;
    for (int p = 0; p < many; p++) {
      take(p);
      BigInteger[][] found = values();
      greatest = p == 0 ? found.clone() : greatest;
      least = p == 0 ? found.clone() : least;
      for (int s = 0; s < states; s++) {
        greatest[s] = compare(found[s], greatest[s]) > 0 ? found[s] : greatest[s];
        least[s] = compare(found[s], least[s]) < 0 ? found[s] : least[s];
      }
    }
    if (many > 0) {
      Trial.due(name + ": the GREATEST", text(told(false)), text(greatest));
      Trial.due(name + ": the LEAST", text(told(true)), text(least));
      takeTold(false);
      Trial.due(name + ": the POLICY for the GREATEST", text(values()), text(greatest));
      takeTold(true);
      Trial.due(name + ": the POLICY for the LEAST", text(values()), text(least));
      within(false);
      within(true);
    }
    return many;
  }

  /** A text that is WRONG, BROKEN or FULL has none. */
  private static int policiesOf(String name, String text) {
    Trial trial = new Trial();
    if (trial.text(text) < 0) {
      return 0;
    }
    try {
      trial.desk.explore();
    } catch (ArithmeticException | UnsupportedOperationException e) {
      return 0;
    }
    return new AllPoliciesTest(name, text).run();
  }

  public static void main(String[] args) {
    int models = args.length > 0 ? Integer.parseInt(args[0]) : 150;
    long first = args.length > 1 ? Long.parseLong(args[1]) : 0;
    int taken = 0;
    for (long seed = first; seed < first + models && Trial.wrong < 20; seed++) {
      taken += policiesOf("maze " + seed, new ModelMaker(seed).maze(2 + (int) (seed % 7)));
      taken += policiesOf("chain " + seed, new ModelMaker(seed).chain(4 + (int) (seed % 4), 2 + (int) (seed % 3)));
      taken += policiesOf("model " + seed, new ModelMaker(seed).model());
    }
    System.out.println("policies: " + taken);
    Trial.due("some policies were taken", taken > 10 * models, true);
    Trial.finish();
  }
}
