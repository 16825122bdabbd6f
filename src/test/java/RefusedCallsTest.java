import java.util.ArrayList;
import java.util.List;

/**
 * Term 4: "A call that throws changes nothing but what is said there", and in which order exceptions come. In each of
 * some stages of an object, each call that is due to throw is made on a fresh one, and all that can be asked then is
 * held against one that was not called.
 */
public final class RefusedCallsTest {
  private static final String STATE = "IllegalStateException";
  private static final String INDEX = "IndexOutOfBoundsException";
  private static final String ARGUMENT = "IllegalArgumentException";
  private static final String TEXT = "mdp module a x:[0..3]; [] x=0 -> (x'=1); [] x=0 -> 2/6:(x'=2)+4/6:(x'=3); [] x=1 -> 1/4:(x'=2)+3/4:(x'=3); endmodule target x=2;";
  private static final String NEXT = "mdp module b y:bool; [go] !y -> (y'=true); endmodule target y;";
  private static final int STATES = 4;
  private static final int STAGES = 10;

  private static final class Due {
    final String what;
    final String with;
    final Trial.Call call;

    Due(String what, String with, Trial.Call call) {
      this.what = what;
      this.with = with;
      this.call = call;
    }
  }

  private final Trial trial = new Trial();
  private final MarkovDesk desk = trial.desk;
  private boolean read;
  private boolean explored;
  private boolean greatest;
  private boolean least;
  private int fed;

  private RefusedCallsTest(int stage) {
    if (stage == 0) {
      return;
    }
    trial.text(TEXT);
    read = true;
    if (stage >= 2) {
      desk.explore();
      explored = true;
    }
    if (stage >= 3) {
      desk.solve(false);
      greatest = true;
    }
    if (stage >= 4) {
      // RESULT 2/3, and all that is claimed are the greatest values
      desk.claim(0, 2, 6);
      desk.claim(1, 25, 100);
      desk.claim(2, 3, 3);
      desk.outcome(0, 1, 1);
    }
    if (stage == 5) {
      desk.solve(true);
      least = true;
    }
    if (stage >= 6) {
      trial.feed(NEXT);
      fed = (NEXT.length() + 19) / 20 * 20;
    }
    if (stage == 7) {
      for (; fed < 8200; fed += 20) {
        desk.feed(0x20202020, 0x20202020, 0x20202020, 0x20202020, 0x20202020);
      }
    }
    if (stage == 8) {
      try {
        desk.end(7);
      } catch (IllegalArgumentException e) {
        read = false;
      }
      explored = false;
      greatest = false;
      fed = 0;
    }
    if (stage == 9) {
      desk.end(NEXT.length());
      explored = false;
      greatest = false;
      fed = 0;
    }
  }

  private static Object claim(MarkovDesk desk, int s, long a, long b) {
    desk.claim(s, a, b);
    return "nothing";
  }

  private static Object claimResult(MarkovDesk desk, int s) {
    desk.claimResult(s);
    return "nothing";
  }

  /** What is due of a call that is refused for an index once all else is there. */
  private String orState(boolean there) {
    return there ? INDEX : STATE;
  }

  private void texts(List<Due> dues) {
    if (fed > 8180) {
      dues.add(new Due("feed", INDEX, () -> desk.feed(0x24242424, 0, 0, 0, 0)));
    }
    for (int n : new int[] {Integer.MIN_VALUE, -1, fed + 1, 8193, Integer.MAX_VALUE}) {
      dues.add(new Due("end(" + n + ")", INDEX, () -> desk.end(n)));
    }
    if (!read) {
      dues.add(new Due("explore", STATE, desk::explore));
    }
    for (int what : new int[] {Integer.MIN_VALUE, -1, 8, Integer.MAX_VALUE}) {
      dues.add(new Due("count(" + what + ")", ARGUMENT, () -> desk.count(what)));
    }
    for (boolean below : new boolean[] {false, true}) {
      dues.add(new Due("part -1", INDEX, () -> desk.part(below, -1)));
      dues.add(new Due("part least", INDEX, () -> desk.part(below, Integer.MIN_VALUE)));
    }
  }

  private void states(List<Due> dues) {
    for (int what : new int[] {Integer.MIN_VALUE, -1, 6, Integer.MAX_VALUE}) {
      dues.add(new Due("state(0, " + what + ", 0)", ARGUMENT, () -> desk.state(0, what, 0)));
      dues.add(new Due("state(-1, " + what + ", -1)", ARGUMENT, () -> desk.state(-1, what, -1)));
    }
    for (int what = 0; what < 6; what++) {
      int w = what;
      String with = orState(what == 2 ? greatest : what == 3 ? least : explored);
      if (with.equals(STATE)) {
        dues.add(new Due("state(0, " + what + ", 0)", STATE, () -> desk.state(0, w, 0)));
      }
      int[][] none = {{-1, 0}, {STATES, 0}, {0, -1}, {0, what == 5 ? 2 : 1}, {STATES, 9}, {Integer.MAX_VALUE, 0}, {0, Integer.MAX_VALUE}, {Integer.MIN_VALUE, Integer.MIN_VALUE}};
      for (int[] n : none) {
        dues.add(new Due("state(" + n[0] + ", " + what + ", " + n[1] + ")", with, () -> desk.state(n[0], w, n[1])));
      }
    }
    if (!explored) {
      dues.add(new Due("outcome(0, 0, 0)", STATE, () -> desk.outcome(0, 0, 0)));
    }
    int[][] none = {{-1, 0, 0}, {STATES, 0, 0}, {0, -1, 0}, {0, 2, 0}, {0, 0, -1}, {0, 0, 1}, {0, 1, 2}, {Integer.MAX_VALUE, 0, 0}, {0, Integer.MAX_VALUE, 0}, {0, 0, Integer.MAX_VALUE}};
    for (int[] n : none) {
      dues.add(new Due("outcome(" + n[0] + ", " + n[1] + ", " + n[2] + ")", orState(explored), () -> desk.outcome(n[0], n[1], n[2])));
    }
  }

  private void values(List<Due> dues) {
    for (boolean l : new boolean[] {false, true}) {
      boolean solved = l ? least : greatest;
      if (!explored) {
        dues.add(new Due("solve " + l, STATE, () -> desk.solve(l)));
        dues.add(new Due("check " + l, STATE, () -> desk.check(l)));
      }
      if (!solved) {
        dues.add(new Due("value " + l, STATE, () -> desk.value(l, 0)));
        dues.add(new Due("within " + l, STATE, () -> desk.within(l, 0, 0)));
      }
      for (int s : new int[] {Integer.MIN_VALUE, -1, STATES, 24, Integer.MAX_VALUE}) {
        dues.add(new Due("value " + l + " " + s, orState(solved), () -> desk.value(l, s)));
        dues.add(new Due("within " + l + " " + s, orState(solved), () -> desk.within(l, s, 0)));
        dues.add(new Due("within " + l + " " + s, orState(solved), () -> desk.within(l, s, 12)));
        dues.add(new Due("within " + l + " " + s, ARGUMENT, () -> desk.within(l, s, 13)));
      }
      for (int n : new int[] {Integer.MIN_VALUE, -1, 13, Integer.MAX_VALUE}) {
        dues.add(new Due("within " + l + " " + n, ARGUMENT, () -> desk.within(l, 0, n)));
      }
    }
  }

  private void claims(List<Due> dues) {
    long[][] bad = {{1, 0}, {0, 0}, {1, -1}, {1, Long.MIN_VALUE}, {-1, 1}, {Long.MIN_VALUE, 1}, {-1, -1}, {Long.MIN_VALUE, Long.MIN_VALUE}, {-1, 0}};
    for (long[] b : bad) {
      for (int s : new int[] {0, 1, -1, STATES}) {
        dues.add(new Due("claim(" + s + ", " + b[0] + ", " + b[1] + ")", ARGUMENT, () -> claim(desk, s, b[0], b[1])));
      }
    }
    if (!explored) {
      dues.add(new Due("claim", STATE, () -> claim(desk, 0, 1, 2)));
      dues.add(new Due("claimResult", STATE, () -> claimResult(desk, 0)));
    }
    for (int s : new int[] {Integer.MIN_VALUE, -1, STATES, 24, Integer.MAX_VALUE}) {
      dues.add(new Due("claim " + s, orState(explored), () -> claim(desk, s, 1, 2)));
      dues.add(new Due("claimResult " + s, orState(explored), () -> claimResult(desk, s)));
    }
  }

  private List<Due> dues() {
    List<Due> dues = new ArrayList<>();
    texts(dues);
    states(dues);
    values(dues);
    claims(dues);
    return dues;
  }

  private static void ask(List<String> answers, String what, Trial.Call call) {
    Object got;
    try {
      got = call.on();
    } catch (RuntimeException e) {
      got = e.getClass().getSimpleName();
    }
    answers.add(what + ": " + got);
  }

  private void askResult(List<String> answers) {
    for (boolean below : new boolean[] {false, true}) {
      answers.add("bits " + below + ": " + desk.bits(below));
      answers.add("part " + below + ": " + desk.part(below, 0) + " " + desk.part(below, 1));
    }
  }

  private void askModel(List<String> answers) {
    askResult(answers);
    answers.add("wrong: " + desk.wrong());
    for (int what = 0; what < 8; what++) {
      answers.add("count " + what + ": " + desk.count(what));
    }
    for (boolean l : new boolean[] {false, true}) {
      ask(answers, "check " + l, () -> desk.check(l));
    }
    for (int s = 0; s < STATES; s++) {
      int state = s;
      for (int what = 0; what < 6; what++) {
        int w = what;
        ask(answers, "state " + s + " " + what, () -> desk.state(state, w, 0));
      }
      for (boolean l : new boolean[] {false, true}) {
        ask(answers, "value " + l + " " + s, () -> desk.value(l, state));
        askResult(answers);
        ask(answers, "within " + l + " " + s, () -> desk.within(l, state, 2));
        askResult(answers);
      }
      ask(answers, "outcome " + s, () -> desk.outcome(state, 0, 0));
      askResult(answers);
    }
  }

  /** All that can be asked, then what was fed, and what the text in it makes. */
  private List<String> probe() {
    List<String> answers = new ArrayList<>();
    askModel(answers);
    ask(answers, "feed", () -> desk.feed(0x20202020, 0x20202020, 0x20202020, 0x20202020, 0x20202020));
    ask(answers, "end", () -> desk.end(Math.min(fed, NEXT.length())));
    ask(answers, "explore", desk::explore);
    askModel(answers);
    return answers;
  }

  public static void main(String[] args) {
    int calls = 0;
    for (int stage = 0; stage < STAGES; stage++) {
      List<String> untouched = new RefusedCallsTest(stage).probe();
      int many = new RefusedCallsTest(stage).dues().size();
      for (int i = 0; i < many; i++) {
        RefusedCallsTest refused = new RefusedCallsTest(stage);
        Due due = refused.dues().get(i);
        Trial.dueThrow("stage " + stage + " " + due.what, due.with, due.call);
        Trial.due("behind " + due.what + " in stage " + stage, refused.probe(), untouched);
        calls++;
      }
    }
    System.out.println("refused calls: " + calls);
    Trial.finish();
  }
}
