/** Promises 8 to 15 and Terms 3 and 4: POLICIES, VALUES, what is CLAIMED, and the RESULT. */
public final class ValuesTest {
  private static String one(String variables, String commands, String target) {
    return "mdp module a " + variables + " " + commands + " endmodule target " + target + ";";
  }

  /** The die that Knuth and Yao make of coins. */
  private static final String DIE = one("s:[0..7]; d:[0..6];", "[] s=0 -> 0.5:(s'=1)+0.5:(s'=2); [] s=1 -> 1/2:(s'=3)+1/2:(s'=4); [] s=2 -> 1/2:(s'=5)+1/2:(s'=6);"
      + "[] s=3 -> 1/2:(s'=1)+1/2:(s'=7)&(d'=1); [] s=4 -> 1/2:(s'=7)&(d'=2)+1/2:(s'=7)&(d'=3); [] s=5 -> 1/2:(s'=7)&(d'=4)+1/2:(s'=7)&(d'=5);"
      + "[] s=6 -> 1/2:(s'=2)+1/2:(s'=7)&(d'=6);", "d=6");

  /** 0 may stay, leave for 1 or gamble; 1 leads to 2 or 3; 2 is the target; nothing leads out of 3. */
  private static final String GAMBLE = one("x:[0..3];", "[] x=0 -> true; [] x=0 -> (x'=1); [] x=0 -> 1/3:(x'=2)+2/3:(x'=3); [] x=1 -> 1/4:(x'=2)+3/4:(x'=3);", "x=2");

  private static void solving() {
    Trial trial = Trial.explored(GAMBLE, 4);
    MarkovDesk desk = trial.desk;
    // states: 0 is x=0, 1 is x=1, 2 is x=2, 3 is x=3; the first policy for the greatest takes 2 in 0, for 2 is nearer
    Trial.due("policies for the greatest", desk.solve(false), 1);
    Trial.due("again", desk.solve(false), 1);
    Trial.due("choice of 0", desk.state(0, 2, 0), 2);
    Trial.due("value of 0", desk.value(false, 0), false);
    trial.dueResult("greatest of 0", 1, 3);
    Trial.due("value of the target", desk.value(false, 2), true);
    trial.dueResult("greatest of 2", 1, 1);
    Trial.due("value of the trap", desk.value(false, 3), false);
    trial.dueResult("greatest of 3", 0, 1);
    Trial.due("policies for the least", desk.solve(true), 1);
    Trial.due("choice of 0", desk.state(0, 3, 0), 0);
    Trial.due("choice of 3", desk.state(3, 3, 0), 0);
    desk.value(true, 0);
    trial.dueResult("least of 0", 0, 1);
    desk.value(true, 1);
    trial.dueResult("least of 1", 1, 4);
  }

  private static void improving() {
    // the nearest way is not the best one: 1/9 at once, 1/2 over x=1
    Trial trial = Trial.explored(one("x:[0..3];", "[] x=0 -> 1/9:(x'=2)+8/9:(x'=3); [] x=0 -> (x'=1); [] x=0 -> (x'=1); [] x=1 -> 1/2:(x'=2)+1/2:(x'=3);", "x=2"), 4);
    Trial.due("policies", trial.desk.solve(false), 2);
    Trial.due("the least of two alike", trial.desk.state(0, 2, 0), 1);
    trial.desk.value(false, 0);
    trial.dueResult("greatest", 1, 2);
    Trial.due("policies", trial.desk.solve(true), 1);
    Trial.due("choice", trial.desk.state(0, 3, 0), 0);
    trial.desk.value(true, 0);
    trial.dueResult("least", 1, 9);
    // no change for what is only as good
    Trial same = Trial.explored(one("x:[0..3];", "[] x=0 -> (x'=1); [] x=0 -> 1/2:(x'=2)+1/2:(x'=3); [] x=1 -> 1/2:(x'=2)+1/2:(x'=3);", "x=2"), 4);
    Trial.due("policies", same.desk.solve(false), 1);
    Trial.due("it keeps the one it has", same.desk.state(0, 2, 0), 1);
    Trial.due("policies", same.desk.solve(true), 1);
    Trial.due("it keeps the one it has", same.desk.state(0, 3, 0), 0);
    // for the least, 0 is not to be found by reckoning alone: staying is as good as it gets
    Trial stay = Trial.explored(one("x:[0..2];", "[] x=0 -> (x'=1); [] x=1 -> (x'=0); [] x=1 -> 1/9:(x'=2)+8/9:true;", "x=2"), 3);
    Trial.due("policies", stay.desk.solve(true), 1);
    Trial.due("choice of 1", stay.desk.state(1, 3, 0), 0);
    Trial.due("value", stay.desk.value(true, 1), false);
    stay.dueResult("least", 0, 1);
    Trial.due("policies", stay.desk.solve(false), 1);
    Trial.due("choice of 1", stay.desk.state(1, 2, 0), 1);
    Trial.due("value", stay.desk.value(false, 0), true);
    // rounds: what got its choice in the same round is not yet a way
    Trial rounds = Trial.explored(one("x:[0..3];", "[] x=0 -> (x'=1); [] x=1 -> (x'=2); [] x=1 -> 1/2:(x'=3)+1/2:true; [] x=2 -> 1/3:(x'=3)+2/3:(x'=0);", "x=3"), 4);
    rounds.desk.solve(false);
    Trial.due("choice of 1", rounds.desk.state(1, 2, 0), 1);
    // the target is left alone, though it could be left
    Trial target = Trial.explored(one("x:[0..1];", "[] x=1 -> true; [] x=1 -> (x'=0); [] x=0 -> (x'=1);", "x=1"), 2);
    target.desk.solve(true);
    Trial.due("choice in the target", target.desk.state(1, 3, 0), 0);
    Trial.due("value", target.desk.value(true, 0), true);
  }

  private static void noTarget() {
    Trial trial = Trial.explored(one("x:[0..1];", "[] true -> true; [] x=0 -> (x'=1);", "false"), 2);
    Trial.due("policies", trial.desk.solve(false), 1);
    Trial.due("policies", trial.desk.solve(true), 1);
    Trial.due("value", trial.desk.value(false, 0), false);
    trial.dueResult("nothing", 0, 1);
    Trial.due("within", trial.desk.within(false, 0, 12), true);
    Trial.due("check", trial.desk.check(false), true);
    Trial.due("check", trial.desk.check(true), true);
    Trial all = Trial.explored(one("x:bool;", "[] true -> (x'=!x);", "true"), 2);
    Trial.due("policies", all.desk.solve(true), 1);
    Trial.due("value", all.desk.value(true, 1), true);
    Trial.due("check", all.desk.check(true), false);
  }

  private static void refusing() {
    Trial trial = new Trial();
    MarkovDesk desk = trial.desk;
    String state = "IllegalStateException";
    Trial.dueThrow("within 13", "IllegalArgumentException", () -> desk.within(false, 0, 13));
    Trial.dueThrow("within -1", "IllegalArgumentException", () -> desk.within(false, 0, -1));
    Trial.dueThrow("within", state, () -> desk.within(false, -1, 0));
    Trial.dueThrow("value", state, () -> desk.value(false, -1));
    Trial.dueThrow("solve", state, () -> desk.solve(false));
    Trial.dueThrow("check", state, () -> desk.check(false));
    Trial.dueThrow("claim", "IllegalArgumentException", () -> claim(desk, -1, 1, 0));
    Trial.dueThrow("claim", "IllegalArgumentException", () -> claim(desk, -1, -1, 1));
    Trial.dueThrow("claim", "IllegalArgumentException", () -> claim(desk, 0, 1, Long.MIN_VALUE));
    Trial.dueThrow("claim", state, () -> claim(desk, -1, 0, 1));
    Trial.dueThrow("claimResult", state, () -> claimResult(desk, -1));
    trial.text(GAMBLE);
    Trial.dueThrow("not explored", state, () -> desk.solve(true));
    desk.explore();
    Trial.dueThrow("not solved", state, () -> desk.value(true, 9));
    Trial.dueThrow("not solved", state, () -> desk.within(true, 9, 1));
    desk.check(true);
    Trial.dueThrow("check is no solve", state, () -> desk.value(true, 0));
    Trial.dueThrow("check is no solve", state, () -> desk.state(0, 3, 0));
    desk.solve(true);
    Trial.dueThrow("solved, but the other one", state, () -> desk.value(false, 0));
    Trial.dueThrow("solved, but the other one", state, () -> desk.within(false, 0, 0));
    desk.value(true, 1);
    for (int s : new int[] {-1, 4, Integer.MAX_VALUE, Integer.MIN_VALUE}) {
      String index = "IndexOutOfBoundsException";
      Trial.dueThrow("value", index, () -> desk.value(true, s));
      Trial.dueThrow("within", index, () -> desk.within(true, s, 12));
      Trial.dueThrow("claim", index, () -> claim(desk, s, 1, 1));
      Trial.dueThrow("claimResult", index, () -> claimResult(desk, s));
      Trial.dueThrow("within", "IllegalArgumentException", () -> desk.within(true, s, 13));
    }
    trial.dueResult("left by calls that throw", 1, 4);
    Trial.dueThrow("part(-1)", "IndexOutOfBoundsException", () -> desk.part(false, -1));
    Trial.dueThrow("part(-1)", "IndexOutOfBoundsException", () -> desk.part(true, Integer.MIN_VALUE));
  }

  private static Object claim(MarkovDesk desk, int s, long a, long b) {
    desk.claim(s, a, b);
    return "nothing";
  }

  private static Object claimResult(MarkovDesk desk, int s) {
    desk.claimResult(s);
    return "nothing";
  }

  private static void stepping() {
    Trial trial = Trial.explored(DIE, 13);
    MarkovDesk desk = trial.desk;
    desk.solve(false);
    // 6 comes over 0 2 6 7 in three steps with 1/8, and then every two steps with a quarter of that
    long[][] due = {{0, 1}, {0, 1}, {0, 1}, {1, 8}, {1, 8}, {5, 32}, {5, 32}, {21, 128}, {21, 128}, {85, 512}, {85, 512}, {341, 2048}, {341, 2048}};
    for (int n = 0; n <= 12; n++) {
      Trial.due("within " + n, desk.within(false, 0, n), due[n][0] == 0);
      trial.dueResult("within " + n, due[n][0], due[n][1]);
    }
    Trial.due("value", desk.value(false, 0), false);
    trial.dueResult("sixth", 1, 6);
    int six = -1;
    for (int s = 0; s < 13; s++) {
      six = desk.state(s, 1, 0) == 1 ? s : six;
    }
    int target = six;
    Trial.due("in the target", desk.within(false, target, 0), false);
    trial.dueResult("in the target", 1, 1);
    // the policy for the greatest is followed, not the best one for few steps
    Trial far = Trial.explored(one("x:[0..4];", "[] x=0 -> 1/2:(x'=3)+1/2:(x'=4); [] x=0 -> (x'=1); [] x=1 -> (x'=2); [] x=2 -> 0.9:(x'=3)+0.1:(x'=4);", "x=3"), 5);
    far.desk.solve(false);
    far.desk.solve(true);
    Trial.due("greatest within 2", far.desk.within(false, 0, 2), true);
    Trial.due("greatest within 3", far.desk.within(false, 0, 3), false);
    far.dueResult("greatest within 3", 9, 10);
    Trial.due("least within 1", far.desk.within(true, 0, 1), false);
    far.dueResult("least within 1", 1, 2);
  }

  private static void claiming() {
    Trial trial = Trial.explored(GAMBLE, 4);
    MarkovDesk desk = trial.desk;
    desk.claim(0, 5, 15);
    desk.claim(1, 250, 1000);
    desk.claim(2, Long.MAX_VALUE, Long.MAX_VALUE);
    Trial.due("greatest", desk.check(false), true);
    Trial.due("least", desk.check(true), false);
    desk.claim(0, 0, 77);
    Trial.due("greatest", desk.check(false), false);
    Trial.due("least", desk.check(true), true);
    desk.claim(3, 1, Long.MAX_VALUE);
    Trial.due("a little above 0", desk.check(true), false);
    desk.claim(3, 0, 1);
    desk.claim(2, Long.MAX_VALUE, Long.MAX_VALUE - 1);
    Trial.due("a little above 1", desk.check(true), false);
    desk.outcome(1, 0, 0);
    desk.claimResult(1);
    desk.outcome(2, 0, 0);
    desk.claimResult(2);
    Trial.due("by the result", desk.check(true), true);
    desk.solve(false);
    desk.value(false, 0);
    desk.claimResult(0);
    Trial.due("by the value", desk.check(false), true);
  }

  /** A number below that is longer than one part: 997 to the 12th. */
  private static void parts() {
    StringBuilder commands = new StringBuilder();
    for (int x = 0; x < 12; x++) {
      commands.append("[] x=").append(x).append(" -> 1/997:(x'=").append(x + 1).append(")+996/997:(x'=13);");
    }
    Trial trial = Trial.explored(one("x:[0..13];", commands.toString(), "x=12"), 14);
    MarkovDesk desk = trial.desk;
    desk.solve(false);
    desk.value(false, 0);
    java.math.BigInteger due = java.math.BigInteger.valueOf(997).pow(12);
    Trial.due("bits above", desk.bits(false), 1);
    Trial.due("bits below", desk.bits(true), due.bitLength());
    java.math.BigInteger got = java.math.BigInteger.ZERO;
    for (int k = 4; k >= 0; k--) {
      got = got.shiftLeft(31).add(java.math.BigInteger.valueOf(desk.part(true, k)));
    }
    Trial.due("parts below", got, due);
    Trial.due("behind the last", desk.part(true, 4), 0);
    Trial.due("far behind it", desk.part(true, Integer.MAX_VALUE), 0);
    Trial.due("above", desk.part(false, 0), 1);
    Trial.due("behind it", desk.part(false, 1), 0);
    desk.value(false, 2);
    Trial.due("bits of 0", desk.bits(false), 0);
    Trial.due("bits of 1", desk.bits(true), 1);
  }

  private static void longest() {
    Trial trial = Trial.explored(ModelMaker.longest(), 24);
    MarkovDesk desk = trial.desk;
    desk.solve(true);
    desk.within(true, 0, 10);
    Trial.due("at most 5,000 bits", desk.bits(true) <= 5000, true);
    desk.claimResult(0);
    desk.within(true, 0, 12);
    int bits = desk.bits(true);
    Trial.due("more than 5,000 bits", bits > 5000, true);
    Trial.dueThrow("claimResult", "UnsupportedOperationException", () -> claimResult(desk, 0));
    Trial.dueThrow("claimResult", "IndexOutOfBoundsException", () -> claimResult(desk, 24));
    Trial.due("it stays", desk.bits(true), bits);
    Trial.due("check", desk.check(true), false);
    for (int s = 0; s < 24; s++) {
      desk.value(true, s);
      desk.claimResult(s);
    }
    Trial.due("check", desk.check(true), true);
    desk.within(true, 0, 12);
    trial.text("mdp module a endmodule target true;");
    Trial.dueThrow("not explored comes first", "IllegalStateException", () -> claimResult(desk, 0));
  }

  /** 5,000 bits can be claimed; the next length that such a model comes to can not. */
  private static void longestClaim() {
    int[][] due = {{152, 5000}, {224, 5002}};
    for (int[] d : due) {
      Trial trial = Trial.explored(ModelMaker.longest(390, d[0]), 24);
      trial.desk.solve(false);
      trial.desk.within(false, 0, 12);
      Trial.due("bits", trial.desk.bits(true), d[1]);
      Trial.dueThrow("claimResult", d[1] > 5000 ? "UnsupportedOperationException" : "nothing", () -> claimResult(trial.desk, 0));
    }
  }

  public static void main(String[] args) {
    solving();
    improving();
    noTarget();
    refusing();
    stepping();
    claiming();
    parts();
    longest();
    longestClaim();
    Trial.finish();
  }
}
