/** Promises 8 to 15 and Terms 3 and 4, sentence by sentence: the last case that is taken, the first that is refused. */
public final class ValueEdgesTest {
  private static final String STATE = "IllegalStateException";
  private static final String INDEX = "IndexOutOfBoundsException";
  private static final String ARGUMENT = "IllegalArgumentException";
  private static final String FULL = "UnsupportedOperationException";
  private static final boolean[] BOTH = {false, true};

  private static String one(String variables, String commands, String target) {
    return "mdp module a " + variables + " " + commands + " endmodule target " + target + ";";
  }

  /** The POLICY for the greatest (2) or the least (3) of x=0, x=1 and so on. */
  private static void policy(Trial trial, int what, int... due) {
    for (int x = 0; x < due.length; x++) {
      Trial.due("choice of x=" + x, trial.desk.state(at(trial, x), what, 0), due[x]);
    }
  }

  private static void value(Trial trial, boolean least, int x, long top, long below) {
    Trial.due("whether it is 1", trial.desk.value(least, at(trial, x)), top == below);
    trial.dueResult("value " + least + " of x=" + x, top, below);
  }

  /** The STATE in which the first variable is x. */
  private static int at(Trial trial, int x) {
    for (int s = 0; s < trial.desk.count(4); s++) {
      if (trial.desk.state(s, 4, 0) == x) {
        return s;
      }
    }
    return -1;
  }

  private static Object claim(MarkovDesk desk, int s, long a, long b) {
    desk.claim(s, a, b);
    return "nothing";
  }

  private static Object claimResult(MarkovDesk desk, int s) {
    desk.claimResult(s);
    return "nothing";
  }

  private static void firstPolicy() {
    Trial.says("Term 3: First POLICY: rounds: in each one, STATES that have none yet .. get the least such");
    // 2 and 1 are in the first round, 0 in the second one, by CHOICE 1
    Trial rounds = Trial.explored(one("x:[0..4];", "[] x=0 -> (x'=4); [] x=0 -> (x'=1); [] x=0 -> (x'=2); [] x=1 -> (x'=0); [] x=1 -> (x'=2); [] x=1 -> (x'=3); [] x=1 -> (x'=3); [] x=2 -> 1/2:(x'=4)+1/2:(x'=3);",
        "x=3"), 5);
    Trial.due("policies", rounds.desk.solve(false), 1);
    policy(rounds, 2, 1, 2, 0, 0, 0);
    value(rounds, false, 0, 1, 1);
    value(rounds, false, 2, 1, 2);
    Trial.says("Term 3: .. got one in a round before");
    // in the first round 1 has no CHOICE but the second one, though 0 gets its own in the same round
    Trial same = Trial.explored(one("x:[0..3];", "[] x=0 -> 1/2:(x'=2)+1/2:(x'=1); [] x=1 -> (x'=0); [] x=1 -> 1/3:(x'=2)+2/3:(x'=3);", "x=2"), 4);
    same.desk.solve(false);
    Trial.due("policies", same.desk.solve(false), 2);
    policy(same, 2, 0, 0, 0, 0);
    value(same, false, 1, 1, 1);
    Trial.says("Term 3: SURE not: STATES from which no way leads to the TARGET: 0; STATES in the TARGET, and those with 0 for GREATEST, have CHOICE 0");
    Trial sure = Trial.explored(one("x:[0..4];", "[] x=0 -> 1/2:(x'=1)+1/2:(x'=2); [] x=1 -> (x'=0); [] x=1 -> true; [] x=2 -> (x'=3); [] x=2 -> (x'=4); [] x=3 -> (x'=2); [] x=4 -> true; [] x=4 -> (x'=2);", "x=1"), 5);
    Trial.due("policies", sure.desk.solve(false), 1);
    policy(sure, 2, 0, 0, 0, 0, 0);
    value(sure, false, 0, 1, 2);
    value(sure, false, 1, 1, 1);
    for (int x = 2; x < 5; x++) {
      value(sure, false, x, 0, 1);
    }
  }

  private static void leastZero() {
    Trial.says("Term 3: LEAST: 0 is the greatest set of STATES that are not in the TARGET, each with a CHOICE whose OUTCOMES are all in it; these get the least such CHOICE, others CHOICE 0");
    Trial cycle = Trial.explored(one("x:[0..3];", "[] x=0 -> (x'=2); [] x=0 -> 1/2:(x'=1)+1/2:(x'=3); [] x=0 -> (x'=1); [] x=0 -> true; [] x=1 -> (x'=2); [] x=1 -> 1/2:(x'=0)+1/2:true; [] x=3 -> (x'=2);", "x=2"), 4);
    Trial.due("policies", cycle.desk.solve(true), 1);
    policy(cycle, 3, 2, 1, 0, 0);
    value(cycle, true, 0, 0, 1);
    value(cycle, true, 1, 0, 1);
    value(cycle, true, 2, 1, 1);
    value(cycle, true, 3, 1, 1);
    // one OUTCOME that leads out of the set is enough
    Trial leak = Trial.explored(one("x:[0..2];", "[] x=0 -> 999/999:true; [] x=0 -> 0.999:true+0.001:(x'=1); [] x=1 -> (x'=2);", "x=2"), 3);
    leak.desk.solve(true);
    value(leak, true, 0, 0, 1);
    Trial leaks = Trial.explored(one("x:[0..2];", "[] x=0 -> 0.999:true+0.001:(x'=1); [] x=1 -> (x'=2);", "x=2"), 3);
    Trial.due("policies", leaks.desk.solve(true), 1);
    value(leaks, true, 0, 1, 1);
    Trial.says("Term 3: STATES in the TARGET .. have CHOICE 0");
    Trial target = Trial.explored(one("x:[0..1];", "[] x=0 -> (x'=1); [] x=1 -> (x'=0); [] x=1 -> true;", "x=1"), 2);
    for (boolean least : BOTH) {
      Trial.due("policies", target.desk.solve(least), 1);
      policy(target, least ? 3 : 2, 0, 0);
      value(target, least, 1, 1, 1);
      value(target, least, 0, 1, 1);
    }
    // the TARGET could be left for a STATE with 0, or come back by its second CHOICE alone
    Trial left = Trial.explored(one("x:[0..3];", "[] x=0 -> (x'=1); [] x=1 -> true; [] x=1 -> (x'=2); [] x=1 -> (x'=0); [] x=2 -> (x'=3); [] x=2 -> true;", "x=1|x=3"), 4);
    for (boolean least : BOTH) {
      left.desk.solve(least);
      policy(left, least ? 3 : 2, 0, 0, least ? 1 : 0, 0);
      value(left, least, 1, 1, 1);
      value(left, least, 2, least ? 0 : 1, 1);
    }
    Trial.says("Term 3: VALUES of one: the probability of coming to the TARGET (1 in it)");
    Trial many = Trial.explored(one("x:[0..5];", "[] x=0 -> 0.1:(x'=1)+0.2:(x'=2)+0.3:(x'=3)+0.4:(x'=4); [] x=3 -> 1/3:(x'=1)+1/3:(x'=2)+1/3:(x'=5);", "x=1|x=2|x=5"), 6);
    for (boolean least : BOTH) {
      Trial.due("policies", many.desk.solve(least), 1);
      value(many, least, 0, 3, 5);
      value(many, least, 3, 1, 1);
      value(many, least, 4, 0, 1);
      Trial.due("within 1", many.desk.within(least, 0, 1), false);
      many.dueResult("within 1", 3, 10);
      Trial.due("within 2", many.desk.within(least, 0, 2), false);
      many.dueResult("within 2", 3, 5);
    }
    // STATE 0 is the TARGET
    Trial first = Trial.explored(one("x:[0..2];", "[] x=0 -> 1/2:(x'=1)+1/2:(x'=2); [] x=1 -> 1/4:(x'=0)+3/4:true;", "x=0"), 3);
    for (boolean least : BOTH) {
      first.desk.solve(least);
      value(first, least, 0, 1, 1);
      value(first, least, 1, 1, 1);
      value(first, least, 2, 0, 1);
      Trial.due("within 0", first.desk.within(least, 0, 0), false);
      first.dueResult("within 0", 1, 1);
      Trial.due("within 12", first.desk.within(least, 0, 12), false);
      first.dueResult("within 12", 1, 1);
      Trial.due("within 2", first.desk.within(least, 1, 2), false);
      first.dueResult("within 2", 7, 16);
    }
  }

  private static void better() {
    Trial.says("Term 3: gets the CHOICE for which SUM of probability times VALUE is greatest (least), the least such CHOICE");
    Trial three = Trial.explored(one("x:[0..4];", "[] x=0 -> 1/5:(x'=3)+4/5:(x'=4); [] x=0 -> (x'=1); [] x=1 -> 1/10:(x'=3)+9/10:(x'=4); [] x=1 -> (x'=2); [] x=2 -> 9/10:(x'=3)+1/10:(x'=4);", "x=3"), 5);
    Trial.says("Promise 8: of how many POLICIES VALUES were found (the first and the last, too; the same number when it is called again)");
    // 1/5 and 1/10; then 9/10 for x=1; then 9/10 for x=0, too
    Trial.due("policies", three.desk.solve(false), 3);
    Trial.due("policies", three.desk.solve(true), 2);
    three.desk.check(false);
    three.desk.within(false, 0, 12);
    Trial.due("again", three.desk.solve(false), 3);
    Trial.due("again", three.desk.solve(true), 2);
    policy(three, 2, 1, 1, 0, 0, 0);
    policy(three, 3, 1, 0, 0, 0, 0);
    value(three, false, 0, 9, 10);
    value(three, true, 0, 1, 10);
    three.desk.explore();
    three.desk.check(true);
    Trial.due("anew", three.desk.solve(true), 2);
    Trial.says("Term 3: the least such CHOICE, if that is greater (less) than that of the one it has");
    // 0 has CHOICE 2; 0, 1 and 3 are better and alike
    String far = "[] x=0 -> (x'=1);";
    String tie = far + far + "[] x=0 -> 1/9:(x'=2)+8/9:(x'=3);" + far + "[] x=1 -> 1/2:(x'=2)+1/2:(x'=3);";
    Trial greatest = Trial.explored(one("x:[0..3];", tie, "x=2"), 4);
    Trial.due("policies", greatest.desk.solve(false), 2);
    policy(greatest, 2, 0);
    // for the least it has CHOICE 0; 2 is less; no other one is
    Trial.due("policies", greatest.desk.solve(true), 2);
    policy(greatest, 3, 2);
    // what is only as good is not taken, before it or behind it
    Trial even = Trial.explored(one("x:[0..3];", far + "[] x=0 -> 4/8:(x'=2)+4/8:(x'=3); [] x=0 -> 0.5:(x'=2)+0.5:(x'=3);" + "[] x=1 -> 1/2:(x'=2)+1/2:(x'=3);", "x=2"), 4);
    Trial.due("policies", even.desk.solve(false), 1);
    policy(even, 2, 1);
    Trial.due("policies", even.desk.solve(true), 1);
    policy(even, 3, 0);
    // 1/997 against 1/998 and 1/996: a little less, a little more
    Trial close = Trial.explored(one("x:[0..2];", "[] x=0 -> 1/997:(x'=1)+996/997:(x'=2); [] x=0 -> 1/998:(x'=1)+997/998:(x'=2); [] x=0 -> 1/996:(x'=1)+995/996:(x'=2);", "x=1"), 3);
    Trial.due("policies", close.desk.solve(false), 2);
    policy(close, 2, 2);
    value(close, false, 0, 1, 996);
    Trial.due("policies", close.desk.solve(true), 2);
    policy(close, 3, 1);
    value(close, true, 0, 1, 998);
  }

  private static void solving() {
    Trial.says("Promise 8: IllegalStateException: not explored");
    Trial trial = new Trial();
    for (boolean least : BOTH) {
      Trial.dueThrow("new", STATE, () -> trial.desk.solve(least));
    }
    trial.text(one("x:[0..1];", "[] x=0 -> (x'=1);", "x=1"));
    for (boolean least : BOTH) {
      Trial.dueThrow("read", STATE, () -> trial.desk.solve(least));
    }
    trial.desk.explore();
    for (boolean least : BOTH) {
      Trial.due("explored", trial.desk.solve(least), 1);
    }
    trial.text("mdp");
    for (boolean least : BOTH) {
      Trial.dueThrow("gone", STATE, () -> trial.desk.solve(least));
    }
    Trial.says("Promise 8: (the first and the last, too)");
    String[] targets = {"false", "true"};
    for (int i = 0; i < 2; i++) {
      Trial edge = Trial.explored(one("x:[0..1];", "[] x=0 -> 1/2:true+1/2:(x'=1); [] x=0 -> true;", targets[i]), 2);
      for (boolean least : BOTH) {
        Trial.due("policies", edge.desk.solve(least), 1);
        value(edge, least, 0, i, 1);
        value(edge, least, 1, i, 1);
        policy(edge, least ? 3 : 2, 0, 0);
      }
    }
  }

  private static void telling() {
    Trial.says("Promise 9: whether it is 1");
    Trial trial = Trial.explored(one("x:[0..5];", "[] x=0 -> 0.001:(x'=1)+0.999:(x'=2); [] x=2 -> 1/2:true+1/2:(x'=3); [] x=3 -> 1/999:(x'=4)+998/999:(x'=1); [] x=3 -> 998/999:(x'=4)+1/999:(x'=1);", "x=1"), 5);
    Trial.says("Promise 9: IllegalStateException: not solved. IndexOutOfBoundsException");
    for (boolean least : BOTH) {
      Trial.dueThrow("not solved", STATE, () -> trial.desk.value(least, 0));
      Trial.dueThrow("not solved", STATE, () -> trial.desk.value(least, 5));
    }
    trial.desk.solve(true);
    Trial.dueThrow("not solved", STATE, () -> trial.desk.value(false, 0));
    value(trial, true, 3, 1, 999);
    trial.desk.solve(false);
    value(trial, false, 3, 998, 999);
    for (boolean least : BOTH) {
      for (int s : new int[] {Integer.MIN_VALUE, -1, 5, 24, Integer.MAX_VALUE}) {
        Trial.dueThrow("value " + s, INDEX, () -> trial.desk.value(least, s));
        trial.dueResult("left", 998, 999);
      }
    }
    value(trial, false, 1, 1, 1);
    value(trial, false, 4, 0, 1);
    value(trial, false, 2, 998, 999);
    // 1/1000 + 999/1000 * 998/999
    value(trial, false, 0, 999, 1000);
    // 1/1000 + 999/1000 * 1/999
    value(trial, true, 0, 1, 500);
  }

  private static void stepping() {
    Trial.says("Promise 10: n not 0..12");
    Trial trial = Trial.explored(one("x:[0..1];", "[] x=0 -> 1/2:true+1/2:(x'=1); [] x=1 -> (x'=0);", "x=1"), 2);
    MarkovDesk desk = trial.desk;
    for (int n : new int[] {Integer.MIN_VALUE, -1, 13, Integer.MAX_VALUE}) {
      Trial.dueThrow("before it is solved", ARGUMENT, () -> desk.within(false, 0, n));
    }
    Trial.dueThrow("not solved", STATE, () -> desk.within(false, 0, 0));
    Trial.dueThrow("not solved", STATE, () -> desk.within(false, 9, 12));
    for (boolean least : BOTH) {
      desk.solve(least);
      for (int n = 0; n <= 12; n++) {
        Trial.due("whether it is 0", desk.within(least, 0, n), n == 0);
        trial.dueResult("within " + n, (1 << n) - 1, 1 << n);
        Trial.says("Promise 10: (1 in it, for n 0, too)");
        Trial.due("in it", desk.within(least, 1, n), false);
        trial.dueResult("in it, within " + n, 1, 1);
      }
      desk.within(least, 0, 12);
      for (int n : new int[] {Integer.MIN_VALUE, -1, 13, Integer.MAX_VALUE}) {
        Trial.dueThrow("within " + n, ARGUMENT, () -> desk.within(least, 0, n));
        Trial.dueThrow("within " + n, ARGUMENT, () -> desk.within(least, -1, n));
        trial.dueResult("left", 4095, 4096);
      }
      for (int s : new int[] {Integer.MIN_VALUE, -1, 2, 24, Integer.MAX_VALUE}) {
        Trial.dueThrow("within of " + s, INDEX, () -> desk.within(least, s, 0));
        Trial.dueThrow("within of " + s, INDEX, () -> desk.within(least, s, 12));
        trial.dueResult("left", 4095, 4096);
      }
    }
    Trial.says("Promise 10: the POLICY for the GREATEST (LEAST) comes from STATE s to the TARGET in at most n steps");
    // the greatest goes 12 steps, the least is there in one with 1/2
    StringBuilder b = new StringBuilder("[] x=0 -> 1/2:(x'=13)+1/2:(x'=14); [] x<12 -> (x'=x+1); [] x=12 -> 3/4:(x'=13)+1/4:(x'=14);");
    Trial chain = Trial.explored(one("x:[0..14];", b.toString(), "x=13"), 15);
    for (boolean least : BOTH) {
      chain.desk.solve(least);
    }
    Trial.due("11 steps are not enough from x=1", chain.desk.within(false, at(chain, 1), 11), true);
    Trial.due("12 steps are", chain.desk.within(false, at(chain, 1), 12), false);
    chain.dueResult("12 steps", 3, 4);
    Trial.due("12 steps are not enough from x=0", chain.desk.within(false, at(chain, 0), 12), true);
    Trial.due("one step is", chain.desk.within(true, at(chain, 0), 1), false);
    chain.dueResult("one step", 1, 2);
    Trial.due("no step is not", chain.desk.within(true, at(chain, 0), 0), true);
    chain.dueResult("no step", 0, 1);
    Trial.due("from where no way leads", chain.desk.within(false, at(chain, 14), 12), true);
  }

  private static void claiming() {
    Trial.says("Promise 11: IllegalArgumentException: b is not above 0, a below 0");
    Trial trial = Trial.explored(one("x:[0..2];", "[] x=0 -> 1/2:(x'=1)+1/2:(x'=2);", "x=1"), 3);
    MarkovDesk desk = trial.desk;
    desk.claim(0, 1, 2);
    desk.claim(1, 1, 1);
    Trial.due("claimed", desk.check(false), true);
    long[][] bad = {{0, 0}, {1, 0}, {1, -1}, {-1, 1}, {-1, -1}, {-1, -2}, {Long.MIN_VALUE, 1}, {1, Long.MIN_VALUE}, {Long.MIN_VALUE, Long.MIN_VALUE}};
    for (long[] n : bad) {
      for (int s : new int[] {-1, 0, 1, 2, 3}) {
        Trial.dueThrow("claim(" + s + ", " + n[0] + ", " + n[1] + ")", ARGUMENT, () -> claim(desk, s, n[0], n[1]));
      }
      Trial.dueThrow("not explored", ARGUMENT, () -> claim(new MarkovDesk(), 0, n[0], n[1]));
      Trial.due("it stays", desk.check(false), true);
    }
    Trial.dueThrow("not explored", STATE, () -> claim(new MarkovDesk(), 0, 0, 1));
    for (int s : new int[] {Integer.MIN_VALUE, -1, 3, 24, Integer.MAX_VALUE}) {
      Trial.dueThrow("claim of " + s, INDEX, () -> claim(desk, s, 1, 3));
      Trial.due("it stays", desk.check(false), true);
    }
    Trial.says("Promise 11: the number a / b, made smaller or not");
    long most = Long.MAX_VALUE;
    long[][] half = {{1, 2}, {2, 4}, {500, 1000}, {most / 2, most - 1}, {1L << 61, 1L << 62}, {1L << 30, 1L << 31}, {1L << 31, 1L << 32}};
    for (long[] n : half) {
      desk.claim(0, n[0], n[1]);
      Trial.due(n[0] + " / " + n[1], desk.check(false), true);
    }
    long[][] other = {{0, 1}, {0, most}, {1, 1}, {2, 1}, {most, 1}, {1, most}, {most, most}, {most / 2, most}, {most / 2 + 1, most}, {1, 3}, {(1L << 32) + 1, 1L << 33}, {1L << 32, (1L << 33) + 1}};
    for (long[] n : other) {
      desk.claim(0, n[0], n[1]);
      Trial.due(n[0] + " / " + n[1], desk.check(false), false);
    }
    desk.claim(0, 1, 2);
    desk.claim(1, most, most);
    desk.claim(2, 0, most);
    Trial.due("claimed", desk.check(false), true);
    Trial.says("Promise 11: (0 at first, and behind explore())");
    desk.claim(2, 1, most);
    Trial.due("one that is not", desk.check(false), false);
    desk.explore();
    desk.claim(0, 1, 2);
    Trial.due("1 is 0", desk.check(false), false);
    desk.claim(1, 1, 1);
    Trial.due("2 is 0", desk.check(false), true);
    Trial none = Trial.explored(one("x:[0..2];", "[] x=0 -> 1/2:(x'=1)+1/2:(x'=2);", "false"), 3);
    Trial.due("all are 0 at first", none.desk.check(false), true);
    Trial.due("all are 0 at first", none.desk.check(true), true);
    for (int s = 0; s < 3; s++) {
      none.desk.claim(s, 1, 1);
      Trial.due("claimed", none.desk.check(true), false);
      none.desk.explore();
      Trial.due("0 behind explore()", none.desk.check(true), true);
    }
    Trial last = Trial.explored(one("x:[0..23];", "[] x<23 -> (x'=x+1);", "false"), 24);
    last.desk.claim(23, 1, 1);
    Trial.due("claimed", last.desk.check(true), false);
    last.desk.explore();
    Trial.due("0 behind explore()", last.desk.check(true), true);
  }

  private static void claimingResult() {
    Trial.says("Promise 12: UnsupportedOperationException: its denominator has more than 5,000 bits");
    int[][] lengths = {{960, 5000}, {820, 5001}};
    for (int[] d : lengths) {
      Trial trial = Trial.explored(ModelMaker.longest(390, 213, d[0]), 24);
      MarkovDesk desk = trial.desk;
      desk.solve(false);
      for (int s = 0; s < 24; s++) {
        desk.value(false, s);
        desk.claimResult(s);
      }
      Trial.due("claimed", desk.check(false), true);
      desk.within(false, 0, 12);
      Trial.due("bits", desk.bits(true), d[1]);
      int low = desk.part(true, 0);
      for (int s : new int[] {Integer.MIN_VALUE, -1, 24, Integer.MAX_VALUE}) {
        Trial.dueThrow("the index comes first", INDEX, () -> claimResult(desk, s));
      }
      boolean refused = d[1] > 5000;
      Trial.dueThrow("claimResult", refused ? FULL : "nothing", () -> claimResult(desk, 3));
      Trial.due("bits stay", desk.bits(true), d[1]);
      Trial.due("part stays", desk.part(true, 0), low);
      Trial.due("what is claimed stays if it is refused", desk.check(false), refused);
      desk.value(false, 3);
      desk.claimResult(3);
      Trial.due("claimed", desk.check(false), true);
      desk.within(false, 0, 12);
      desk.explore();
      Trial.due("the RESULT stays", desk.bits(true), d[1]);
      Trial.dueThrow("claimResult", refused ? FULL : "nothing", () -> claimResult(desk, 23));
      trial.text("mdp");
      Trial.dueThrow("the state comes first", STATE, () -> claimResult(desk, 3));
      Trial.due("the RESULT stays", desk.bits(true), d[1]);
    }
    Trial.says("Promise 12: What is CLAIMED of STATE s is the RESULT");
    Trial small = Trial.explored(one("x:[0..2];", "[] x=0 -> 1/2:(x'=1)+1/2:(x'=2);", "x=1"), 3);
    small.desk.claim(0, 1, 1);
    small.desk.claimResult(0);
    small.desk.claim(1, 1, 1);
    Trial.due("0 at first", small.desk.check(false), false);
    small.desk.outcome(0, 0, 1);
    small.desk.claimResult(0);
    small.desk.outcome(1, 0, 0);
    Trial.due("not the RESULT that comes later", small.desk.check(false), true);
    small.desk.claimResult(2);
    Trial.due("1", small.desk.check(false), false);
  }

  private static void checking() {
    Trial.says("Promise 13: it needs no solve, and is none");
    Trial trial = Trial.explored(one("x:[0..2];", "[] x=0 -> 1/2:(x'=1)+1/2:(x'=2); [] x=0 -> 1/3:(x'=1)+2/3:(x'=2);", "x=1"), 3);
    MarkovDesk desk = trial.desk;
    desk.outcome(0, 1, 1);
    for (int round = 0; round < 2; round++) {
      desk.claim(0, 1, 2);
      desk.claim(1, 1, 1);
      Trial.due("greatest", desk.check(false), true);
      Trial.due("least", desk.check(true), false);
      desk.claim(0, 1, 3);
      Trial.due("greatest", desk.check(false), false);
      Trial.due("least", desk.check(true), true);
      Trial.says("Promise 13: of all STATES");
      int[][] off = {{0, 0}, {0, 1}, {1, 0}, {2, 1}};
      for (int[] o : off) {
        desk.claim(o[0], o[1], 1);
        Trial.due("state " + o[0], desk.check(true), false);
        desk.claim(0, 1, 3);
        desk.claim(1, 1, 1);
        desk.claim(2, 0, 1);
        Trial.due("all", desk.check(true), true);
      }
      trial.dueResult("the RESULT is left", 2, 3);
      if (round == 0) {
        for (boolean least : BOTH) {
          Trial.dueThrow("not solved", STATE, () -> desk.value(least, 0));
          Trial.dueThrow("not solved", STATE, () -> desk.within(least, 0, 1));
          Trial.dueThrow("not solved", STATE, () -> desk.state(0, least ? 3 : 2, 0));
        }
        desk.solve(true);
        Trial.dueThrow("the other one is not", STATE, () -> desk.value(false, 0));
        desk.solve(false);
      }
    }
    Trial.says("Promise 13: IllegalStateException: not explored");
    for (boolean least : BOTH) {
      Trial.dueThrow("new", STATE, () -> new MarkovDesk().check(least));
    }
    trial.text("mdp module a endmodule target true;");
    for (boolean least : BOTH) {
      Trial.dueThrow("read", STATE, () -> desk.check(least));
    }
  }

  /** Each of so many times, all but 1/2, .. or 1/512 comes to the TARGET: 1 - 2^-n in all. */
  private static Trial allBut(int n) {
    StringBuilder b = new StringBuilder();
    int x = 0;
    for (int rest = n; rest > 0; rest -= 9) {
      int part = 1 << Math.min(rest, 9);
      b.append("[] x=").append(x).append(" -> 1/").append(part).append(":(x'=").append(x + 1).append(")+").append(part - 1).append("/").append(part).append(":(x'=30);");
      x++;
    }
    Trial trial = Trial.explored(one("x:[0..30];", b.toString(), "x=30"), x + 2);
    trial.desk.solve(true);
    trial.desk.value(true, 0);
    return trial;
  }

  private static void parts() {
    Trial.says("Promises 14 and 15: How many bits the numerator (below: denominator) of the RESULT has; 31 bits of it, from bit 31 * k on; 0 behind the last");
    for (int n : new int[] {1, 2, 9, 29, 30, 31, 32, 33, 60, 61, 62, 63, 64, 92, 93, 94, 123, 124, 125, 186, 187, 198}) {
      MarkovDesk desk = allBut(n).desk;
      Trial.due("bits of 2^" + n + " - 1", desk.bits(false), n);
      Trial.due("bits of 2^" + n, desk.bits(true), n + 1);
      for (int k = 0; k < 9; k++) {
        int ones = Math.max(0, Math.min(31, n - 31 * k));
        Trial.due("part " + k + " of 2^" + n + " - 1", desk.part(false, k), (int) ((1L << ones) - 1));
        Trial.due("part " + k + " of 2^" + n, desk.part(true, k), n / 31 == k ? 1 << n % 31 : 0);
      }
      for (boolean below : BOTH) {
        Trial.due("far behind the last", desk.part(below, 1 << 27), 0);
        Trial.due("far behind the last", desk.part(below, Integer.MAX_VALUE), 0);
        // 31 * k is 2, 3 or 27 if it is cut to 32 bits
        Trial.due("far behind the last", desk.part(below, 2078209982), 0);
        Trial.due("far behind the last", desk.part(below, 969831325), 0);
        Trial.due("far behind the last", desk.part(below, 138547333), 0);
      }
    }
    Trial.says("Promise 15: IndexOutOfBoundsException: k is below 0");
    MarkovDesk fresh = new MarkovDesk();
    MarkovDesk desk = allBut(40).desk;
    for (int k : new int[] {Integer.MIN_VALUE, -31, -2, -1}) {
      for (boolean below : BOTH) {
        Trial.dueThrow("part " + k, INDEX, () -> desk.part(below, k));
        Trial.dueThrow("part " + k, INDEX, () -> fresh.part(below, k));
      }
    }
    Trial.due("bits stay", desk.bits(false), 40);
  }

  private static void lowestTerms() {
    Trial.says("Term 4: without a common divisor; 0 is 0 / 1");
    String[][] lists = {{"2/4", "2/4", "1", "2"}, {"999/999", "", "1", "1"}, {"0.500", "0.5", "1", "2"}, {"0.250", "3/4", "1", "4"}, {"6/9", "3/9", "2", "3"}, {"0.999", "0.001", "999", "1000"}, {"998/998", "", "1", "1"}};
    for (String[] list : lists) {
      String rest = list[1].isEmpty() ? "" : "+" + list[1] + ":true";
      Trial trial = Trial.explored(one("x:[0..1];", "[] x=0 -> " + list[0] + ":(x'=1)" + rest + ";", "x=0"), 2);
      Trial.due("goes to", trial.desk.outcome(0, 0, 0), 1);
      trial.dueResult(list[0], Long.parseLong(list[2]), Long.parseLong(list[3]));
    }
    Trial joint = Trial.explored("mdp module a x:[0..1]; [g] x=0 -> 2/3:(x'=1)+1/3:true; endmodule module b y:[0..1]; [g] x=0 -> 3/4:(y'=1)+1/4:true; endmodule target false;", 4);
    joint.desk.outcome(0, 0, 0);
    joint.dueResult("2/3 * 3/4", 1, 2);
    joint.desk.outcome(0, 0, 3);
    joint.dueResult("1/3 * 1/4", 1, 12);
    joint.desk.solve(false);
    joint.desk.value(false, 0);
    joint.dueResult("0", 0, 1);
    Trial.due("bits of 0", joint.desk.bits(false), 0);
    Trial.due("bits of 1", joint.desk.bits(true), 1);
    joint.desk.outcome(0, 0, 0);
    joint.desk.within(false, 0, 12);
    joint.dueResult("0", 0, 1);
    // 1/2 * 2/3 * 3/4 * .. * 11/12
    StringBuilder b = new StringBuilder();
    for (int x = 0; x < 11; x++) {
      b.append("[] x=").append(x).append(" -> ").append(x + 1).append("/").append(x + 2).append(":(x'=").append(x + 1).append(")+1/").append(x + 2).append(":(x'=12);");
    }
    Trial tele = Trial.explored(one("x:[0..12];", b.toString(), "x=11"), 13);
    tele.desk.solve(true);
    value(tele, true, 0, 1, 12);
    tele.desk.within(true, 0, 11);
    tele.dueResult("within 11", 1, 12);
    tele.desk.within(true, 0, 10);
    tele.dueResult("within 10", 0, 1);
  }

  private static void lastCall() {
    Trial.says("An object is used for at most 512 calls after it has been made");
    Trial trial = new Trial();
    String text = one("x:[0..2];", "[] x=0 -> 1/2:(x'=1)+1/2:(x'=2);", "x=1");
    trial.text(text);
    trial.desk.explore();
    trial.desk.solve(false);
    int calls = (text.length() + 19) / 20 + 3;
    for (; calls < 511; calls++) {
      trial.desk.within(false, calls % 3, 12);
    }
    Trial.due("the 512th", trial.desk.value(false, 1), true);
  }

  public static void main(String[] args) {
    firstPolicy();
    leastZero();
    better();
    solving();
    telling();
    stepping();
    claiming();
    claimingResult();
    checking();
    parts();
    lowestTerms();
    lastCall();
    Trial.finish();
  }
}
