/** Promises 1 to 7 and 16 and Term 2, sentence by sentence: the last case that is taken, the first that is refused. */
public final class StateEdgesTest {
  private static final String BROKEN = "ArithmeticException";
  private static final String FULL = "UnsupportedOperationException";
  private static final String STATE = "IllegalStateException";
  private static final String INDEX = "IndexOutOfBoundsException";
  private static final String ARGUMENT = "IllegalArgumentException";
  private static final String LEAST = "mdp module a endmodule target true;";
  private static final int[] FAR = {Integer.MIN_VALUE, Integer.MIN_VALUE + 1, -1000000, -2, -1};

  private static String one(String variables, String commands, String target) {
    return "mdp module a " + variables + " " + commands + " endmodule target " + target + ";";
  }

  /** It can be read, and what explore() throws then leaves a MODEL that is not explored. */
  private static void ends(String text, String with) {
    Trial trial = Trial.explored(one("z:[0..2];", "[] z=0 -> 2/6:(z'=1)+4/6:(z'=2);", "z=1"), 3);
    trial.desk.solve(false);
    trial.desk.outcome(0, 0, 1);
    Trial.due("tokens of " + text, trial.text(text) > 0, true);
    int modules = trial.desk.count(1);
    for (int i = 0; i < 2; i++) {
      Trial.dueThrow("explore of " + text, with, trial.desk::explore);
      Trial.due("wrong", trial.desk.wrong(), -1);
      Trial.due("modules", trial.desk.count(1), modules);
      for (int what = 4; what < 8; what++) {
        Trial.due("count(" + what + ") behind it", trial.desk.count(what), 0);
      }
      Trial.dueThrow("state", STATE, () -> trial.desk.state(0, 0, 0));
      Trial.dueThrow("outcome", STATE, () -> trial.desk.outcome(0, 0, 0));
      Trial.dueThrow("solve", STATE, () -> trial.desk.solve(false));
      Trial.dueThrow("value", STATE, () -> trial.desk.value(false, 0));
      Trial.dueThrow("check", STATE, () -> trial.desk.check(false));
      trial.dueResult("the RESULT stays", 2, 3);
    }
    Trial.due("read behind it", trial.text(LEAST), 8);
    Trial.due("explored behind it", trial.desk.explore(), 1);
  }

  private static void newObject() {
    Trial.says("Promise 1: Nothing fed, no MODEL");
    Trial trial = new Trial();
    MarkovDesk desk = trial.desk;
    Trial.due("wrong", desk.wrong(), -1);
    for (int what = 0; what < 8; what++) {
      Trial.due("count(" + what + ")", desk.count(what), 0);
    }
    Trial.dueThrow("explore", STATE, desk::explore);
    for (int what = 0; what < 6; what++) {
      int w = what;
      Trial.dueThrow("state " + what, STATE, () -> desk.state(0, w, 0));
    }
    Trial.dueThrow("outcome", STATE, () -> desk.outcome(0, 0, 0));
    for (boolean least : new boolean[] {false, true}) {
      Trial.dueThrow("solve", STATE, () -> desk.solve(least));
      Trial.dueThrow("value", STATE, () -> desk.value(least, 0));
      Trial.dueThrow("within", STATE, () -> desk.within(least, 0, 0));
      Trial.dueThrow("check", STATE, () -> desk.check(least));
    }
    Trial.says("Term 4: At first 0; 0 is 0 / 1");
    Trial.due("bits above", desk.bits(false), 0);
    Trial.due("bits below", desk.bits(true), 1);
    trial.dueResult("at first", 0, 1);
    Trial.says("Promise 3: n is above what was fed");
    Trial.dueThrow("end(1)", INDEX, () -> desk.end(1));
    Trial.due("wrong", desk.wrong(), -1);
    Trial.dueThrow("end(0)", ARGUMENT, () -> desk.end(0));
    Trial.due("wrong", desk.wrong(), 0);
    Trial.due("feed", desk.feed(0, 0, 0, 0, 0), 20);
  }

  private static void feeding() {
    Trial.says("Promise 2: 20 octets, four of a first, the highest one first");
    Trial order = new Trial();
    // "mdp module m_ // xy\n" and the rest of the least text
    Trial.due("feed", order.desk.feed(0x6d647020, 0x6d6f6475, 0x6c65206d, 0x5f202f2f, 0x2078790a), 20);
    Trial.due("feed", order.desk.feed(0x656e646d, 0x6f64756c, 0x65207461, 0x72676574, 0x20747275), 40);
    Trial.due("feed", order.desk.feed(0x653bffff, -1, 0x80000000, Integer.MIN_VALUE, 0x7fffffff), 60);
    Trial.due("end", order.desk.end(42), 8);
    Trial.says("Promise 2: there would be more than 8,200 (nothing comes then)");
    Trial trial = new Trial();
    String text = " ".repeat(8192 - LEAST.length()) + LEAST;
    trial.feed(text.substring(0, 8180));
    Trial.due("the last that is taken", trial.desk.feed(text.charAt(8180) << 24 | text.charAt(8181) << 16 | text.charAt(8182) << 8 | text.charAt(8183),
        text.charAt(8184) << 24 | text.charAt(8185) << 16 | text.charAt(8186) << 8 | text.charAt(8187),
        text.charAt(8188) << 24 | text.charAt(8189) << 16 | text.charAt(8190) << 8 | text.charAt(8191), 0, -1), 8200);
    for (int i = 0; i < 3; i++) {
      Trial.dueThrow("the first that is refused", INDEX, () -> trial.desk.feed(0x24242424, 0x24242424, 0x24242424, 0x24242424, 0x24242424));
      Trial.dueThrow("end(8193)", INDEX, () -> trial.desk.end(8193));
      Trial.dueThrow("end(8200)", INDEX, () -> trial.desk.end(8200));
    }
    Trial.due("nothing came", trial.desk.end(8192), 8);
    Trial.due("and there is room again", trial.desk.feed(0, 0, 0, 0, 0), 20);
  }

  private static void ending() {
    Trial.says("Promise 3: n is below 0, above 8,192, or above what was fed (all stays then)");
    Trial trial = Trial.explored(one("z:[0..2];", "[] z=0 -> 2/6:(z'=1)+4/6:(z'=2);", "z=1"), 3);
    MarkovDesk desk = trial.desk;
    desk.solve(false);
    desk.claim(0, 1, 3);
    desk.claim(1, 1, 1);
    desk.outcome(0, 0, 1);
    trial.feed("mdp mdp             ");
    for (int n : new int[] {Integer.MIN_VALUE, -8192, -1, 21, 8192, 8193, 8200, Integer.MAX_VALUE}) {
      Trial.dueThrow("end(" + n + ")", INDEX, () -> desk.end(n));
      Trial.due("wrong", desk.wrong(), -1);
      Trial.due("variables", desk.count(0), 1);
      Trial.due("states", desk.count(4), 3);
      Trial.due("policy", desk.state(0, 2, 0), 0);
      Trial.due("claimed", desk.check(false), true);
      trial.dueResult("the RESULT", 2, 3);
    }
    Trial.due("what was fed", desk.feed(0, 0, 0, 0, 0), 40);
    Trial.says("Promise 3: IllegalArgumentException: WRONG; there is no MODEL then (all of which is gone then, WRONG or not; the RESULT stays)");
    Trial.dueThrow("end(7)", ARGUMENT, () -> desk.end(7));
    Trial.due("wrong", desk.wrong(), 4);
    for (int what = 0; what < 8; what++) {
      Trial.due("count(" + what + ")", desk.count(what), 0);
    }
    trial.dueResult("the RESULT", 2, 3);
    Trial.dueThrow("explore", STATE, desk::explore);
    Trial.dueThrow("state", STATE, () -> desk.state(0, 0, 0));
    Trial.dueThrow("solve", STATE, () -> desk.solve(false));
    Trial.dueThrow("value", STATE, () -> desk.value(false, 0));
    Trial.dueThrow("check", STATE, () -> desk.check(false));
    Trial.dueThrow("it is gone", INDEX, () -> desk.end(1));
    Trial.due("wrong stays", desk.wrong(), 4);
    Trial.due("the next one is the first", desk.feed(0, 0, 0, 0, 0), 20);
    Trial.dueThrow("end(20)", ARGUMENT, () -> desk.end(20));
    Trial.due("wrong", desk.wrong(), 0);
    Trial.says("Promise 3: THE TEXT is the first n octets of what was fed");
    trial.feed(LEAST + "mdp mdp");
    Trial.due("end", desk.end(LEAST.length()), 8);
    Trial.due("wrong", desk.wrong(), -1);
    Trial.dueThrow("all of it is gone", INDEX, () -> desk.end(1));
    Trial.due("and the MODEL stays", desk.count(1), 1);
    Trial.due("the next one is the first", desk.feed(0, 0, 0, 0, 0), 20);
    Trial.dueThrow("end(0)", ARGUMENT, () -> desk.end(0));
    Trial.due("wrong", desk.wrong(), 0);
    Trial.due("no MODEL", desk.count(1), 0);
    trial.dueResult("the RESULT", 2, 3);
    Trial.says("Promise 3: THE MODEL, not explored");
    Trial anew = Trial.explored(one("z:[0..2];", "[] z=0 -> 2/6:(z'=1)+4/6:(z'=2);", "z=1"), 3);
    anew.desk.solve(true);
    anew.desk.value(true, 0);
    Trial.due("end", anew.text(LEAST), 8);
    for (int what = 4; what < 8; what++) {
      Trial.due("count(" + what + ")", anew.desk.count(what), 0);
    }
    Trial.dueThrow("state", STATE, () -> anew.desk.state(0, 0, 0));
    Trial.dueThrow("value", STATE, () -> anew.desk.value(true, 0));
    Trial.dueThrow("claim", STATE, () -> claim(anew.desk, 0, 1, 1));
    anew.dueResult("the RESULT", 1, 3);
    Trial.due("explore", anew.desk.explore(), 1);
    Trial.dueThrow("not solved", STATE, () -> anew.desk.value(true, 0));
  }

  private static Object claim(MarkovDesk desk, int s, long a, long b) {
    desk.claim(s, a, b);
    return "nothing";
  }

  private static void wrong() {
    Trial.says("Promise 4: Where the latest TEXT was WRONG; -1 if it was not, or there was none");
    Trial trial = new Trial();
    Trial.due("none", trial.desk.wrong(), -1);
    trial.text("$");
    Trial.due("its first octet", trial.desk.wrong(), 0);
    trial.text(" ".repeat(8191) + "$");
    Trial.due("its last octet", trial.desk.wrong(), 8191);
    trial.text(" ".repeat(8192));
    Trial.due("END", trial.desk.wrong(), 8192);
    Trial.dueThrow("explore", STATE, trial.desk::explore);
    Trial.due("still", trial.desk.wrong(), 8192);
    trial.text(LEAST);
    Trial.due("right", trial.desk.wrong(), -1);
    trial.text("mdp");
    Trial.due("the number of octets", trial.desk.wrong(), 3);
    trial.text("mdp module");
    Trial.due("the number of octets", trial.desk.wrong(), 10);
  }

  private static void exploring() {
    Trial.says("Promise 5: IllegalStateException: there is none");
    Trial trial = new Trial();
    Trial.dueThrow("new", STATE, trial.desk::explore);
    trial.feed(LEAST);
    Trial.dueThrow("only fed", STATE, trial.desk::explore);
    Trial.due("end", trial.desk.end(LEAST.length()), 8);
    Trial.due("explore", trial.desk.explore(), 1);
    Trial.due("explore again", trial.desk.explore(), 1);
    trial.text("mdp");
    Trial.dueThrow("WRONG", STATE, trial.desk::explore);
    Trial.says("Promise 5: anew: what was found before, POLICIES and what was CLAIMED are gone; the RESULT stays");
    Trial anew = Trial.explored(one("z:[0..2];", "[] z=0 -> 2/6:(z'=1)+4/6:(z'=2);", "z=1"), 3);
    MarkovDesk desk = anew.desk;
    desk.solve(false);
    desk.solve(true);
    desk.claim(0, 1, 3);
    desk.claim(1, 1, 1);
    Trial.due("claimed", desk.check(true), true);
    desk.value(false, 0);
    Trial.due("explore", desk.explore(), 3);
    anew.dueResult("the RESULT", 1, 3);
    Trial.dueThrow("policy", STATE, () -> desk.state(0, 2, 0));
    Trial.dueThrow("policy", STATE, () -> desk.state(0, 3, 0));
    for (boolean least : new boolean[] {false, true}) {
      Trial.dueThrow("value", STATE, () -> desk.value(least, 0));
      Trial.dueThrow("within", STATE, () -> desk.within(least, 0, 1));
      Trial.due("claimed", desk.check(least), false);
    }
    desk.claimResult(0);
    desk.claim(1, 1, 1);
    Trial.due("claimed anew", desk.check(true), true);
  }

  private static String counting(int states) {
    return one("x:[0..99];", "[] x<" + (states - 1) + " -> (x'=x+1);", "false");
  }

  private static String to(int from, int most) {
    StringBuilder b = new StringBuilder();
    for (int i = from; i <= most; i++) {
      b.append("[] x=0 -> (x'=").append(i).append(");");
    }
    return b.toString();
  }

  private static void manyStates() {
    Trial.says("Term 2: FULL: more than 24 STATES");
    Trial.explored(counting(23), 23);
    Trial.due("the last one", Trial.explored(counting(24), 24).desk.state(23, 4, 0), 23);
    ends(counting(25), FULL);
    Trial.explored(one("x:[0..99];", to(1, 23), "true"), 24);
    ends(one("x:[0..99];", to(1, 24), "true"), FULL);
    // 4 UPDATES in each of 6 COMMANDS, with and without one that was come to already
    String four = "[] x=0 -> 1/4:(x'=#1)+1/4:(x'=#2)+1/4:(x'=#3)+1/4:(x'=#4);";
    String six = four.replace("#", "1") + four.replace("#", "2") + four.replace("#", "3") + four.replace("#", "4") + four.replace("#", "5");
    Trial.explored(one("x:[0..99];", six + "[] x=0 -> 1/4:(x'=61)+1/4:(x'=62)+1/4:(x'=63)+1/4:(x'=54);", "true"), 24);
    ends(one("x:[0..99];", six + four.replace("#", "6"), "true"), FULL);
    // 2 * 2 * 2 * 3 of 2 * 2 * 2 * 4
    String cube = "a:bool; b:bool; c:bool; d:[0..3]; [] true -> (a'=!a); [] true -> (b'=!b); [] true -> (c'=!c); [] d<# -> (d'=d+1);";
    Trial.explored("mdp module m " + cube.replace("#", "2") + " endmodule target false;", 24);
    ends("mdp module m " + cube.replace("#", "3") + " endmodule target false;", FULL);
  }

  private static void manyChoices() {
    Trial.says("Term 2: FULL: more than .. 200 CHOICES in all");
    // 40 in each of 5 STATES
    String stay = "[] x<5 -> true;".repeat(39);
    Trial most = Trial.explored(one("x:[0..5];", stay + "[] x<5 -> (x'=min(4,x+1));", "true"), 5);
    Trial.due("choices", most.desk.count(5), 200);
    Trial.due("choices of the last", most.desk.state(4, 0, 0), 40);
    Trial.due("outcomes of the last", most.desk.state(4, 5, 39), 1);
    Trial.due("the last one", most.desk.outcome(4, 39, 0), 4);
    Trial.says("Term 2: The one that stays counts as a CHOICE");
    ends(one("x:[0..5];", stay + "[] x<5 -> (x'=x+1);", "true"), FULL);
    Trial stays = Trial.explored(one("x:[0..5];", "[] x<5 -> true;".repeat(38) + "[] x<4 -> true; [] x<5 -> (x'=x+1);", "true"), 6);
    Trial.due("choices", stays.desk.count(5), 4 * 40 + 39 + 1);
    Trial.due("choices of the one that stays", stays.desk.state(5, 0, 0), 1);
    Trial.says("Term 2: one for each way of taking one of each");
    String act = "[g] true -> true;";
    Trial ways = Trial.explored("mdp module a " + act.repeat(20) + "endmodule module b " + act.repeat(10) + "endmodule target true;", 1);
    Trial.due("choices", ways.desk.count(5), 200);
    ends("mdp module a " + act.repeat(20) + "endmodule module b " + act.repeat(10) + "[] true -> true; endmodule target true;", FULL);
    ends("mdp module a " + act.repeat(20) + "endmodule module b " + act.repeat(11) + "endmodule target true;", FULL);
    ends("mdp module a " + act.repeat(14) + "endmodule module b " + act.repeat(13) + "endmodule module c " + act.repeat(13) + "endmodule target true;", FULL);
    Trial three = Trial.explored("mdp module a " + act.repeat(5) + "endmodule module b " + act.repeat(5) + "endmodule module c " + act.repeat(8) + "endmodule target true;", 1);
    Trial.due("choices", three.desk.count(5), 200);
  }

  /** An UPDATE list of n alike ones. */
  private static String alike(int n, String update) {
    return ("+1/" + n + ":" + update).repeat(n).substring(1);
  }

  private static String joint(String... lists) {
    StringBuilder b = new StringBuilder("mdp ");
    for (int i = 0; i < lists.length; i++) {
      b.append("module m").append(i).append(" v").append(i).append(":[0..1]; [g] true -> ").append(lists[i].replace("v", "v" + i)).append("; endmodule ");
    }
    return b + "target true;";
  }

  private static void manyOutcomes() {
    Trial.says("Term 2: FULL: more than .. 16 OUTCOMES of a CHOICE (before they are one; looked at before its UPDATES are)");
    int[][] fine = {{1, 1, 1}, {6, 1, 1}, {1, 6, 1}, {4, 4, 1}, {1, 4, 4}, {4, 1, 4}, {2, 2, 4}, {4, 2, 2}, {2, 4, 2}, {5, 3, 1}, {3, 1, 5}, {6, 2, 1}, {2, 2, 3}};
    int[][] full = {{6, 3, 1}, {3, 6, 1}, {1, 3, 6}, {3, 1, 6}, {5, 4, 1}, {6, 6, 6}, {2, 2, 5}, {3, 3, 2}, {2, 3, 3}, {6, 6, 1}, {4, 5, 1}};
    for (int[] n : fine) {
      Trial one = Trial.explored(joint(alike(n[0], "true"), alike(n[1], "true"), alike(n[2], "(v'=v)")), 1);
      Trial.due("outcomes are one", one.desk.count(6), 1);
      one.desk.outcome(0, 0, 0);
      one.dueResult("their sum", 1, 1);
      ends(joint(alike(n[0], "true"), alike(n[1], "true"), alike(n[2], "(v'=v+2)")), BROKEN);
    }
    for (int[] n : full) {
      ends(joint(alike(n[0], "true"), alike(n[1], "true"), alike(n[2], "(v'=v)")), FULL);
      ends(joint(alike(n[0], "(v'=2)"), alike(n[1], "(v'=2)"), alike(n[2], "(v'=mod(v,0))")), FULL);
    }
    // all 16 are different
    Trial all = Trial.explored("mdp module a y:[0..3]; [g] y=0 -> 0.1:true+0.2:(y'=1)+0.3:(y'=2)+0.4:(y'=3); endmodule "
        + "module b x:[0..3]; [g] x=0&y=0 -> 0.1:true+0.2:(x'=1)+0.3:(x'=2)+0.4:(x'=3); endmodule target false;", 16);
    Trial.due("outcomes", all.desk.state(0, 5, 0), 16);
    for (int o = 0; o < 16; o++) {
      Trial.due("outcome " + o, all.desk.outcome(0, 0, o), o);
      Trial.due("y of it", all.desk.state(o, 4, 0), o / 4);
      Trial.due("x of it", all.desk.state(o, 4, 1), o % 4);
      int top = (o / 4 + 1) * (o % 4 + 1);
      all.desk.outcome(0, 0, o);
      Trial.due("its probability", all.number(false) * 100, top * all.number(true));
    }
    Trial.dueThrow("outcome 16", INDEX, () -> all.desk.outcome(0, 0, 16));
    Trial.says("Term 2: 200 CHOICES with 16 OUTCOMES each");
    String update = "0.1:(#'=0)+0.2:(#'=1)+0.3:(#'=2)+0.4:(#'=3);";
    String onX = " true -> " + update.replace("#", "x");
    String onY = update.replace("#", "y");
    // 3 * 4 in each of 16 STATES, 2 * 4 more in the first one
    String text = "mdp module a x:[0..3]; " + ("[g]" + onX).repeat(3) + ("[h]" + onX).repeat(2) + "endmodule module b y:[0..3]; " + ("[g] true -> " + onY).repeat(4)
        + ("[h] x=0&y=0 -> " + onY).repeat(4) + "endmodule target x=3&y=3;";
    Trial most = Trial.explored(text, 16);
    Trial.due("choices", most.desk.count(5), 200);
    Trial.due("outcomes", most.desk.count(6), 3200);
    for (int s = 0; s < 16; s++) {
      int last = s == 0 ? 19 : 11;
      Trial.due("choices of " + s, most.desk.state(s, 0, 0), last + 1);
      Trial.due("outcomes of " + s, most.desk.state(s, 5, last), 16);
      Trial.due("the last one of " + s, most.desk.outcome(s, last, 15), 15);
      most.dueResult("its probability", 4, 25);
      Trial.due("the first one of " + s, most.desk.outcome(s, 0, 0), 0);
      most.dueResult("its probability", 1, 100);
    }
    ends(text.replace("endmodule target", "[] x=3&y=3 -> true; endmodule target"), FULL);
  }

  private static void broken() {
    Trial.says("Term 2: BROKEN: an int beyond its variable's bounds");
    String x = "x:[-3..5] init 0;";
    for (String fine : new String[] {"-3", "5", "-2-1", "x+5"}) {
      Trial.explored(one(x, "[] x=0 -> (x'=" + fine + ");", "true"), 2);
    }
    for (String bad : new String[] {"-4", "6", "x-4", "x+6", "999999", "-999999", "65536*32767+65535", "-65536*32768"}) {
      ends(one(x, "[] x=0 -> (x'=" + bad + ");", "true"), BROKEN);
      ends(one(x, "[] x=0 -> 1/2:true+1/2:(x'=" + bad + ");", "true"), BROKEN);
      Trial.explored(one(x, "[] x!=0 -> (x'=" + bad + ");", "true"), 1);
    }
    ends(one("x:[65536*32767+65535..65536*32767+65535];", "[] true -> (x'=x+1);", "true"), BROKEN);
    ends(one("x:[-65536*32768..-65536*32768];", "[] true -> (x'=x-1);", "true"), BROKEN);
    ends(one("x:[-65536*32768..-65536*32768];", "[] true -> (x'=-x);", "true"), BROKEN);
    Trial.explored(one("x:[-65536*32768..-65536*32768];", "[] true -> (x'=x*1+0);", "true"), 1);
    Trial.says("Term 2: or a VALUE that is BROKEN, in a guard, UPDATE or the target of a STATE that is come to");
    for (String bad : new String[] {"mod(1,x)=0", "mod(1,x-1)=0", "65536*(32768+x)=0", "x-65536*32768-1=0", "true&mod(1,0)=0", "false|mod(1,0)=0", "!(mod(1,0)=0)"}) {
      ends(one(x, "[] " + bad + " -> true;", "true"), BROKEN);
      ends(one(x, "[g] " + bad + " -> true;", "true"), BROKEN);
      ends(one(x, "", bad), BROKEN);
      ends(one(x + "b:bool;", "[] true -> (b'=" + bad + ");", "true"), BROKEN);
      ends(one(x + "b:bool;", "[] true -> (x'=1)&(b'=" + bad + ");", "true"), BROKEN);
      Trial.explored(one(x + "b:bool;", "[] false&(" + bad + ") -> true; [] false -> (b'=" + bad + ");", "true|" + bad), 1);
      // only in a STATE that is come to last, and in one that is not come to
      ends(one("y:[0..9]; " + x, "[] y<3 -> (y'=y+1);", "y=3&(" + bad + ")"), BROKEN);
      ends(one("y:[0..9]; " + x, "[] y<3 -> (y'=y+1); [] y=3&(" + bad + ") -> true;", "true"), BROKEN);
      Trial.explored(one("y:[0..9]; " + x, "[] y<3 -> (y'=y+1); [] y=4&(" + bad + ") -> true;", "y=4&(" + bad + ")"), 4);
    }
    // a guard is looked at though its ACTION can not be taken
    ends("mdp module a [g] false -> true; endmodule module b x:[0..1]; [g] mod(1,x)=0 -> true; endmodule target true;", BROKEN);
    // an UPDATE is not looked at if its ACTION can not be taken
    Trial.explored("mdp module a [g] false -> true; endmodule module b x:[0..1]; [g] true -> (x'=2); endmodule target true;", 1);
  }

  private static void whatComesFirst() {
    Trial.says("Term 2: What comes first (guards in order of THE TEXT, all of a STATE, then its target, then its CHOICES as above) ends it");
    String full = alike(6, "true");
    String joint = "mdp module a x:[0..9]; [g] true -> " + full + "; %s endmodule module b [g] true -> " + full + "; %s endmodule target %s;";
    ends(String.format(joint, "", "", "true"), FULL);
    ends(String.format(joint, "[] mod(1,0)=0 -> true;", "", "true"), BROKEN);
    ends(String.format(joint, "", "[h] mod(1,0)=0 -> true;", "true"), BROKEN);
    ends(String.format(joint, "", "", "mod(1,0)=0"), BROKEN);
    // those without a NAME come before those with one, whichever stands first
    ends(String.format(joint, "[] true -> (x'=10);", "", "true"), BROKEN);
    // the first ACTION comes before the second one
    ends(String.format(joint, "[h] true -> (x'=10);", "", "true"), FULL);
    ends("mdp module a x:[0..9]; [h] true -> (x'=10); [g] true -> " + full + "; endmodule module b [g] true -> " + full + "; endmodule target true;", BROKEN);
    // STATE by STATE: what is said of STATE 1 comes behind all of STATE 0
    ends(String.format(joint, "[] x=0 -> (x'=1); [] x=1&mod(1,0)=0 -> true;", "", "true"), FULL);
    ends(one("x:[0..99];", "[] x=0 -> (x'=1); [] x=0 -> (x'=100);", "x=0|mod(1,0)=0"), BROKEN);
    ends(one("x:[0..99];", to(1, 24), "x=0|mod(1,0)=0"), FULL);
    // OUTCOME by OUTCOME
    ends(one("x:[0..99];", to(1, 23) + "[] x=0 -> 1/2:(x'=24)+1/2:(x'=100);", "true"), FULL);
    ends(one("x:[0..99];", to(1, 23) + "[] x=0 -> 1/2:(x'=100)+1/2:(x'=24);", "true"), BROKEN);
    // an OUTCOME is reckoned before its STATE is come to
    ends(one("x:[0..99]; y:[0..1];", to(1, 23) + "[] x=0 -> (x'=24)&(y'=2);", "true"), BROKEN);
  }

  private static void order() {
    Trial.says("Term 2: then for each such NAME (ACTION), in the order in which they come first");
    String text = "mdp module a x:[0..99]; [z] x=0 -> (x'=1); [y] x=0 -> (x'=2); [] x=0 -> (x'=3); [z] x=0 -> (x'=4); endmodule "
        + "module b [w] x=0 -> true; [y] x=0 -> true; [z] x<9 -> true; [] x=0 -> true; endmodule module c v:bool; [z] x=0 -> (v'=true); [z] x=0 -> true; endmodule target true;";
    Trial trial = Trial.explored(text, 7);
    MarkovDesk desk = trial.desk;
    Trial.due("actions", desk.count(3), 3);
    // without a NAME: x'=3, b's true; z: 2 * 1 * 2; y: 1 * 1; w: b's true
    Trial.due("choices", desk.state(0, 0, 0), 2 + 4 + 1 + 1);
    int[][] due = {{3, 0}, {0, 0}, {1, 1}, {1, 0}, {4, 1}, {4, 0}, {2, 0}, {0, 0}};
    for (int c = 0; c < due.length; c++) {
      int t = desk.outcome(0, c, 0);
      Trial.due("x of " + c, desk.state(t, 4, 0), due[c][0]);
      Trial.due("v of " + c, desk.state(t, 4, 1), due[c][1]);
      trial.dueResult("sure", 1, 1);
    }
    Trial.says("Term 2: if each MODULE that has COMMANDS of that ACTION has some whose guard is true");
    for (int mask = 0; mask < 8; mask++) {
      String some = "mdp module a [g] " + (mask & 1) + "=1 -> true; endmodule module b [g] false -> true; [g] " + (mask & 2) + "=2 -> true; endmodule module c [g] " + (mask & 4)
          + "=4 -> true; [g] false -> true; endmodule target true;";
      Trial.due("choices " + mask, Trial.explored(some, 1).desk.state(0, 0, 0), 1);
      // the one that stays is not told from the one that is taken but by another CHOICE
      Trial.due("choices " + mask, Trial.explored(some.replace("module a ", "module a [] true -> true; "), 1).desk.state(0, 0, 0), mask == 7 ? 2 : 1);
    }
    Trial.says("Term 2: No CHOICE: one, that stays with 1");
    Trial stays = Trial.explored(one("x:[0..9] init 4;", "[] x=3 -> (x'=5);", "x=4"), 1);
    Trial.due("choices", stays.desk.state(0, 0, 0), 1);
    Trial.due("outcomes", stays.desk.state(0, 5, 0), 1);
    Trial.due("stays", stays.desk.outcome(0, 0, 0), 0);
    stays.dueResult("with 1", 1, 1);
    Trial.due("counts", stays.desk.count(5), 1);
    Trial.due("counts", stays.desk.count(6), 1);
    Trial.says("Term 2: those with the same STATE are one (where the first one is), their sum");
    Trial merged = Trial.explored(one("x:[0..9];", "[] x=0 -> 1/12:(x'=2)+1/4:(x'=1)+1/6:true+1/12:(x'=1)+1/4:(x'=2)+1/6:(x'=x);", "true"), 3);
    long[][] shares = {{1, 3}, {1, 3}, {1, 3}};
    int[] values = {2, 1, 0};
    Trial.due("outcomes", merged.desk.state(0, 5, 0), 3);
    for (int o = 0; o < 3; o++) {
      int t = merged.desk.outcome(0, 0, o);
      merged.dueResult("share of " + o, shares[o][0], shares[o][1]);
      Trial.due("x of " + o, merged.desk.state(t, 4, 0), values[o]);
    }
    Trial.due("counts", merged.desk.count(6), 5);
    Trial.says("Term 2: all reckoned from the STATE before");
    Trial swap = Trial.explored("mdp module a x:[0..9] init 1; y:[0..9] init 2; [s] true -> (x'=y)&(y'=x); endmodule module b z:[0..9] init 3; [s] true -> (z'=x+y); endmodule target true;", 2);
    Trial.due("x", swap.desk.state(1, 4, 0), 2);
    Trial.due("y", swap.desk.state(1, 4, 1), 1);
    Trial.due("z", swap.desk.state(1, 4, 2), 3);
  }

  private static void asking() {
    Trial.says("Promise 6: IllegalArgumentException for others");
    Trial trial = Trial.explored(one("x:[-9..9] init -9; b:bool init true; y:[0..0];", "[] x=-9&b -> 1/2:(x'=9)+1/2:(b'=false); [] x=-9&b -> true;", "x=9"), 3);
    MarkovDesk desk = trial.desk;
    for (int what : new int[] {Integer.MIN_VALUE, -1, 6, 7, Integer.MAX_VALUE}) {
      Trial.dueThrow("state(0, " + what + ", 0)", ARGUMENT, () -> desk.state(0, what, 0));
      Trial.dueThrow("state(-1, " + what + ", -1)", ARGUMENT, () -> desk.state(-1, what, -1));
      Trial.dueThrow("on a new one", ARGUMENT, () -> new MarkovDesk().state(0, what, 0));
    }
    Trial.says("Promise 6: IllegalStateException: .. (2, 3: not solved). They come in this order");
    Trial.dueThrow("not solved", STATE, () -> desk.state(0, 2, 0));
    Trial.dueThrow("not solved", STATE, () -> desk.state(-1, 3, -1));
    desk.check(false);
    desk.check(true);
    Trial.dueThrow("check is no solve", STATE, () -> desk.state(0, 2, 0));
    Trial.dueThrow("check is no solve", STATE, () -> desk.state(0, 3, 0));
    desk.solve(true);
    Trial.dueThrow("only the least", STATE, () -> desk.state(0, 2, 0));
    Trial.due("least", desk.state(0, 3, 0), 1);
    desk.solve(false);
    Trial.due("greatest", desk.state(0, 2, 0), 0);
    Trial.says("Promise 6: IndexOutOfBoundsException: no s, no k (it must be 0 in 0 to 3)");
    int[] last = {0, 0, 0, 0, 2, -1};
    int[] choices = {2, 1, 1};
    for (int what = 0; what < 6; what++) {
      int w = what;
      for (int s = 0; s < 3; s++) {
        int state = s;
        int most = what == 5 ? choices[s] - 1 : last[what];
        Trial.dueThrow("k 0", "nothing", () -> told(desk, state, w, 0));
        Trial.dueThrow("the last k of " + what, "nothing", () -> told(desk, state, w, most));
        Trial.dueThrow("the next one", INDEX, () -> desk.state(state, w, most + 1));
        Trial.dueThrow("far behind it", INDEX, () -> desk.state(state, w, Integer.MAX_VALUE));
        for (int k : FAR) {
          Trial.dueThrow("below 0", INDEX, () -> desk.state(state, w, k));
          Trial.dueThrow("below 0", INDEX, () -> desk.state(k, w, 0));
        }
      }
      Trial.dueThrow("s 3", INDEX, () -> desk.state(3, w, 0));
      Trial.dueThrow("s 24", INDEX, () -> desk.state(24, w, 0));
      Trial.dueThrow("s far", INDEX, () -> desk.state(Integer.MAX_VALUE, w, 0));
    }
    Trial.due("x", desk.state(0, 4, 0), -9);
    Trial.due("x", desk.state(1, 4, 0), 9);
    Trial.due("b", desk.state(0, 4, 1), 1);
    Trial.due("b", desk.state(2, 4, 1), 0);
    Trial.due("target", desk.state(1, 1, 0), 1);
    Trial.due("target", desk.state(0, 1, 0), 0);
    Trial none = Trial.explored(LEAST, 1);
    Trial.dueThrow("no variable", INDEX, () -> none.desk.state(0, 4, 0));
    Trial.due("one choice", none.desk.state(0, 0, 0), 1);
    Trial.says("Promise 7: IndexOutOfBoundsException: there is none");
    desk.outcome(0, 0, 1);
    int[][] nowhere = {{-1, 0, 0}, {3, 0, 0}, {24, 0, 0}, {0, -1, 0}, {0, 2, 0}, {1, 1, 0}, {0, 0, -1}, {0, 0, 2}, {0, 1, 1}, {1, 0, 1}, {2, 0, 1}, {0, 200, 0}, {0, 0, 16},
        {Integer.MAX_VALUE, 0, 0}, {0, Integer.MAX_VALUE, 0}, {0, 0, Integer.MAX_VALUE}, {Integer.MIN_VALUE, 0, 0}, {0, Integer.MIN_VALUE, 0}, {0, 0, Integer.MIN_VALUE}};
    for (int[] n : nowhere) {
      Trial.dueThrow("outcome(" + n[0] + ", " + n[1] + ", " + n[2] + ")", INDEX, () -> desk.outcome(n[0], n[1], n[2]));
      trial.dueResult("the RESULT is left", 1, 2);
    }
    Trial.due("the last one", desk.outcome(2, 0, 0), 2);
    Trial.due("the only one", desk.outcome(0, 1, 0), 0);
  }

  private static Object told(MarkovDesk desk, int s, int what, int k) {
    desk.state(s, what, k);
    return "nothing";
  }

  private static void counts() {
    Trial.says("Promise 16: IllegalArgumentException for others");
    Trial trial = new Trial();
    for (int what : new int[] {Integer.MIN_VALUE, -2, -1, 8, 9, Integer.MAX_VALUE}) {
      Trial.dueThrow("count(" + what + ")", ARGUMENT, () -> trial.desk.count(what));
    }
    Trial.says("Promise 16: 7: STATES in the TARGET");
    String[] targets = {"false", "x=0", "x=1", "x=2", "x!=1", "x<2", "true"};
    int[] dues = {0, 1, 1, 1, 2, 2, 3};
    for (int i = 0; i < dues.length; i++) {
      Trial.due(targets[i], Trial.explored(one("x:[0..2];", "[] x<2 -> (x'=x+1);", targets[i]), 3).desk.count(7), dues[i]);
    }
    Trial.says("Promise 16: .. of THE MODEL (0 if there is none); .. (0 if it is not explored)");
    trial.text("mdp module a x:[0..9]; b:bool; [go] x=0 -> 1/2:(x'=1)+1/2:(x'=2); [] x=1 -> (x'=2); [go] x=1 -> true; endmodule module c [no] true -> true; endmodule target x>0;");
    int[] read = {2, 2, 4, 2, 0, 0, 0, 0};
    int[] explored = {2, 2, 4, 2, 3, 6, 7, 2};
    for (int what = 0; what < 8; what++) {
      Trial.due("read " + what, trial.desk.count(what), read[what]);
    }
    trial.desk.explore();
    for (int what = 0; what < 8; what++) {
      Trial.due("explored " + what, trial.desk.count(what), explored[what]);
    }
    for (int what : new int[] {Integer.MIN_VALUE, -1, 8, Integer.MAX_VALUE}) {
      Trial.dueThrow("count(" + what + ")", ARGUMENT, () -> trial.desk.count(what));
    }
    trial.text("mdp");
    for (int what = 0; what < 8; what++) {
      Trial.due("none " + what, trial.desk.count(what), 0);
    }
  }

  public static void main(String[] args) {
    newObject();
    feeding();
    ending();
    wrong();
    exploring();
    manyStates();
    manyChoices();
    manyOutcomes();
    broken();
    whatComesFirst();
    order();
    asking();
    counts();
    Trial.finish();
  }
}
