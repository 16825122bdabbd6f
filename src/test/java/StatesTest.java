/** Promises 5 to 7 and 16, and Term 2: STATES, CHOICES and OUTCOMES, BROKEN and FULL. */
public final class StatesTest {
  private static final String BROKEN = "ArithmeticException";
  private static final String FULL = "UnsupportedOperationException";

  private static void ends(String text, String with) {
    Trial trial = new Trial();
    Trial.due("tokens of " + text, trial.text(text) > 0, true);
    Trial.dueThrow("explore of " + text, with, trial.desk::explore);
    for (int what = 4; what < 8; what++) {
      Trial.due("count(" + what + ") behind it", trial.desk.count(what), 0);
    }
    Trial.due("modules behind it", trial.desk.count(1) > 0, true);
    Trial.dueThrow("state behind it", "IllegalStateException", () -> trial.desk.state(0, 0, 0));
  }

  private static String one(String variables, String commands, String target) {
    return "mdp module a " + variables + " " + commands + " endmodule target " + target + ";";
  }

  private static String isX(int x, String to) {
    return "[] x=" + x + " -> " + to + ";";
  }

  private static void exploring() {
    Trial trial = Trial.explored(one("x:[0..3] init 1;", isX(1, "1/2:(x'=3)+1/2:(x'=2)") + isX(1, "(x'=0)") + isX(3, "(x'=1)"), "x>=2"), 4);
    int[] order = {1, 3, 2, 0};
    int[] choices = {2, 1, 1, 1};
    int[] target = {0, 1, 1, 0};
    for (int s = 0; s < 4; s++) {
      Trial.due("x of " + s, trial.desk.state(s, 4, 0), order[s]);
      Trial.due("choices of " + s, trial.desk.state(s, 0, 0), choices[s]);
      Trial.due("target of " + s, trial.desk.state(s, 1, 0), target[s]);
    }
    Trial.due("outcomes", trial.desk.state(0, 5, 0), 2);
    Trial.due("outcomes", trial.desk.state(0, 5, 1), 1);
    Trial.due("goes to", trial.desk.outcome(0, 0, 1), 2);
    trial.dueResult("with", 1, 2);
    Trial.due("goes back to", trial.desk.outcome(1, 0, 0), 0);
    trial.dueResult("with", 1, 1);
    Trial.due("stays", trial.desk.outcome(2, 0, 0), 2);
    int[] counts = {1, 1, 3, 0, 4, 5, 6, 2};
    for (int what = 0; what < 8; what++) {
      Trial.due("count(" + what + ")", trial.desk.count(what), counts[what]);
    }
    Trial.dueThrow("count(-1)", "IllegalArgumentException", () -> trial.desk.count(-1));
    Trial.dueThrow("count(8)", "IllegalArgumentException", () -> trial.desk.count(8));
  }

  private static void exploringAnew() {
    Trial trial = Trial.explored(one("x:bool;", "[] !x -> 1/3:(x'=true)+2/3:true;", "x"), 2);
    trial.desk.solve(false);
    trial.desk.outcome(0, 0, 1);
    trial.desk.claim(0, 1, 1);
    trial.desk.claim(1, 1, 1);
    Trial.due("check", trial.desk.check(false), true);
    Trial.due("explore", trial.desk.explore(), 2);
    trial.dueResult("the result stays", 2, 3);
    Trial.dueThrow("policies are gone", "IllegalStateException", () -> trial.desk.state(0, 2, 0));
    Trial.dueThrow("values are gone", "IllegalStateException", () -> trial.desk.value(false, 0));
    Trial.due("claims are gone", trial.desk.check(false), false);
  }

  private static void merging() {
    // 1/6 + 1/3 stays where the first one was
    Trial trial = Trial.explored(one("x:[0..2];", "[] x=0 -> 1/6:(x'=2)+1/4:(x'=1)+1/3:(x'=3-1)+1/4:true;", "false"), 3);
    Trial.due("outcomes", trial.desk.state(0, 5, 0), 3);
    Trial.due("first", trial.desk.outcome(0, 0, 0), 1);
    trial.dueResult("its share", 1, 2);
    Trial.due("first is x=2", trial.desk.state(1, 4, 0), 2);
    Trial.due("second", trial.desk.outcome(0, 0, 1), 2);
    trial.dueResult("its share", 1, 4);
    Trial.due("third", trial.desk.outcome(0, 0, 2), 0);
    Trial.due("all outcomes", trial.desk.count(6), 5);
    Trial.due("no target", trial.desk.count(7), 0);
  }

  private static void together() {
    String text = "mdp module a x:[0..9]; [go] x=0 -> (x'=1); [] x=0 -> (x'=9); [no] x=0 -> (x'=8); [go] x=0 -> 1/2:(x'=2)+1/2:(x'=3); endmodule "
        + "module b y:[0..9]; [go] y=0 & x=0 -> 1/3:(y'=x+4)+2/3:(y'=5); [go] y=0 -> (y'=6); [no] y=7 -> true; endmodule target true;";
    Trial trial = Trial.explored(text, 11);
    MarkovDesk desk = trial.desk;
    Trial.due("actions", desk.count(3), 2);
    Trial.due("choices", desk.state(0, 0, 0), 5);
    int[][] due = {{9, 0}, {1, 4}, {1, 5}, {1, 6}, {2, 4}, {2, 5}, {3, 4}, {3, 5}, {2, 6}, {3, 6}};
    for (int s = 0; s < due.length; s++) {
      Trial.due("x of " + (s + 1), desk.state(s + 1, 4, 0), due[s][0]);
      Trial.due("y of " + (s + 1), desk.state(s + 1, 4, 1), due[s][1]);
    }
    Trial.due("fourth outcome", desk.outcome(0, 3, 3), 8);
    trial.dueResult("its share", 1, 3);
    Trial.due("last choice", desk.outcome(0, 4, 1), 10);
    trial.dueResult("its share", 1, 2);
    Trial.due("its outcomes", desk.state(0, 5, 4), 2);
    // all updates are reckoned from the state before, whatever the modules before them change
    Trial swap = Trial.explored("mdp module a x:bool init true; y:bool; [s] true -> (x'=y)&(y'=x); endmodule module b z:bool; [s] true -> (z'=x); endmodule target z;", 2);
    Trial.due("x", swap.desk.state(1, 4, 0), 0);
    Trial.due("y", swap.desk.state(1, 4, 1), 1);
    Trial.due("z", swap.desk.state(1, 4, 2), 1);
  }

  private static void broken() {
    ends(one("x:[0..2];", "[] true -> (x'=x+1);", "true"), BROKEN);
    ends(one("x:[0..2];", "[] true -> (x'=-1);", "true"), BROKEN);
    ends(one("x:[0..2];", "[] mod(1,x)=0 -> true;", "true"), BROKEN);
    ends(one("x:[0..2];", "", "mod(1,x)=0"), BROKEN);
    ends(one("x:[0..2];", "[] true -> (x'=mod(1,x));", "true"), BROKEN);
    ends(one("x:[0..2];", "[] true -> (x'=999999*999999);", "true"), BROKEN);
    Trial.explored(one("x:[0..2];", "[] false -> (x'=mod(1,x));", "true"), 1);
    Trial.explored(one("x:[0..2];", "[] x<0 & mod(1,x)=0 -> true;", "x=0|mod(1,x)=0"), 1);
  }

  private static String counting(int most) {
    return one("x:[0.." + most + "];", "[] x<" + most + " -> (x'=x+1);", "false");
  }

  private static void full() {
    Trial.explored(counting(23), 24);
    ends(counting(24), FULL);
    // 5 states with 40 choices each; the one that stays counts
    String stay = "[] x<5 -> true;".repeat(39);
    Trial.due("choices", Trial.explored(one("x:[0..5];", stay + "[] x<4 -> (x'=x+1);", "true"), 5).desk.count(5), 199);
    Trial.due("choices", Trial.explored(one("x:[0..5];", stay + "[] x<5 -> (x'=min(4,x+1));", "true"), 5).desk.count(5), 200);
    ends(one("x:[0..5];", stay + "[] x<5 -> (x'=x+1);", "true"), FULL);
    // 4 * 4 outcomes can be told, though they are one; 3 * 6 can not, and are looked at before the updates
    String quarter = "1/4:true+1/4:true+1/4:true+1/4:true";
    String sixth = "1/6:true+1/6:true+1/6:true+1/6:true+1/6:true+1/6:true";
    String text = "mdp module a [g] true -> %s; endmodule module b y:[0..1]; [g] true -> %s; endmodule target true;";
    Trial.due("outcomes", Trial.explored(String.format(text, quarter, quarter), 1).desk.count(6), 1);
    ends(String.format(text, sixth, "1/3:true+1/3:true+1/3:(y'=2)"), FULL);
    ends(String.format(text, quarter, "1/3:true+1/3:true+1/3:(y'=2)"), BROKEN);
  }

  private static void whatComesFirst() {
    // guards of a state, then its target, then its choices
    ends(one("x:[0..9];", "[] true -> (x'=x+1); [] x!=3 | mod(1,0)=0 -> true;", "false"), BROKEN);
    ends(one("x:[0..30];", "[] x<30 -> (x'=x+1);", "x<24 | mod(1,0)=0"), FULL);
    ends(one("x:[0..30];", "[] x<30 -> (x'=x+1);", "x<23 | mod(1,0)=0"), BROKEN);
    ends(one("x:[0..30];", "[] x<30 -> 1/2:(x'=x+1)+1/2:(x'=x<23?0:-1);", "false"), FULL);
    ends(one("x:[0..30];", "[] x<30 -> 1/2:(x'=x<23?0:-1)+1/2:(x'=x+1);", "false"), BROKEN);
    Trial trial = new Trial();
    Trial.dueThrow("explore without a model", "IllegalStateException", trial.desk::explore);
    Trial explored = Trial.explored(one("x:bool;", "", "true"), 1);
    explored.desk.outcome(0, 0, 0);
    Trial.due("read", explored.text(counting(30)) > 0, true);
    Trial.dueThrow("explore", FULL, explored.desk::explore);
    explored.dueResult("the result stays", 1, 1);
    Trial.dueThrow("and again", FULL, explored.desk::explore);
  }

  private static void asking() {
    Trial trial = Trial.explored(one("x:[-3..3] init -2; b:bool init true;", "[] b -> 1/2:(b'=false)+1/2:true;", "!b"), 2);
    MarkovDesk desk = trial.desk;
    Trial.due("x", desk.state(0, 4, 0), -2);
    Trial.due("b", desk.state(0, 4, 1), 1);
    Trial.due("b", desk.state(1, 4, 1), 0);
    Trial.dueThrow("what -1", "IllegalArgumentException", () -> desk.state(9, -1, 9));
    Trial.dueThrow("what 6", "IllegalArgumentException", () -> desk.state(9, 6, 9));
    Trial.dueThrow("not solved", "IllegalStateException", () -> desk.state(9, 2, 9));
    Trial.dueThrow("not solved", "IllegalStateException", () -> desk.state(9, 3, 9));
    desk.solve(false);
    Trial.due("solved", desk.state(0, 2, 0), 0);
    Trial.dueThrow("not solved", "IllegalStateException", () -> desk.state(0, 3, 0));
    int[][] none = {{-1, 0, 0}, {2, 0, 0}, {0, 0, 1}, {0, 1, -1}, {0, 2, 1}, {2, 2, 0}, {0, 4, 2}, {0, 4, -1}, {2, 4, 0}, {0, 5, 1}, {0, 5, -1}, {-1, 5, 0},
        {Integer.MAX_VALUE, 4, 0}, {Integer.MIN_VALUE, 0, 0}, {0, 4, Integer.MAX_VALUE}};
    for (int[] n : none) {
      Trial.dueThrow("state(" + n[0] + ", " + n[1] + ", " + n[2] + ")", "IndexOutOfBoundsException", () -> desk.state(n[0], n[1], n[2]));
    }
    int[][] nowhere = {{-1, 0, 0}, {2, 0, 0}, {0, 1, 0}, {0, -1, 0}, {0, 0, 2}, {0, 0, -1}, {1, 0, 1}, {Integer.MAX_VALUE, Integer.MAX_VALUE, Integer.MAX_VALUE}};
    desk.outcome(0, 0, 0);
    for (int[] n : nowhere) {
      Trial.dueThrow("outcome(" + n[0] + ", " + n[1] + ", " + n[2] + ")", "IndexOutOfBoundsException", () -> desk.outcome(n[0], n[1], n[2]));
    }
    trial.dueResult("a call that throws leaves it", 1, 2);
    trial.text("mdp module a endmodule target true;");
    Trial.dueThrow("not explored", "IllegalStateException", () -> desk.state(-1, 0, 0));
    Trial.dueThrow("what comes before", "IllegalArgumentException", () -> desk.state(-1, 7, 0));
    Trial.dueThrow("not explored", "IllegalStateException", () -> desk.outcome(-1, 0, 0));
  }

  public static void main(String[] args) {
    exploring();
    exploringAnew();
    merging();
    together();
    broken();
    full();
    whatComesFirst();
    asking();
    Trial.finish();
  }
}
