import java.util.ArrayList;
import java.util.List;

/**
 * Promises 3 and 5: a TEXT makes THE MODEL, and explore() finds it anew: nothing is left of what was read before, right
 * or WRONG, BROKEN or FULL. Each text is read behind each other one and behind itself, and what is told of it is held
 * against what a new object tells.
 */
public final class ReadAgainTest {
  private static final String[] TEXTS = {
    "mdp module a endmodule target true;",
    "mdp module a endmodule target false;",
    "mdp const int k=2; module a x:[5..9] init 7; b:bool init true; [go] b -> 1/3:(x'=5)+2/3:(b'=false); [no] b -> (x'=9); endmodule "
        + "module c y:[-3..-1]; [go] y<-k+1 -> (y'=y+1); endmodule target x=5|!b;",
    "mdp module q b:bool; c:bool; d:bool; [] !b -> 0.1:(b'=true)+0.2:(c'=true)+0.3:(d'=true)+0.4:true; [] !c&b -> (c'=true); endmodule target b&c;",
    "mdp module go [k] true -> true; [x] true -> true; [k] true -> true; endmodule module x [x] true -> true; endmodule module k endmodule target false;",
    "mdp module a x:[0..3]; [] x=0 -> true; [] x=0 -> (x'=1); [] x=0 -> 1/3:(x'=2)+2/3:(x'=3); [] x=1 -> 1/4:(x'=2)+3/4:(x'=3); endmodule target x=2;",
    "mdp module a x:[0..3]; [] x=0 -> 1/2:(x'=1)+1/2:(x'=2); [] x=1 -> 0.9:(x'=3)+0.1:true; endmodule target x!=0;",
    "mdp module a endmodule target " + "(".repeat(40) + "true" + ")".repeat(40) + ";",
    // FULL, BROKEN, and WRONG ones
    "mdp module a x:[0..99]; [] true -> (x'=x+1); endmodule target false;",
    "mdp module a x:[0..9]; [go] true -> (x'=x+1); [] x>3 -> true; endmodule target x=9;",
    "mdp const int k=1; module a x:[0..k]; [] x=((1+(2*(x - true",
    "mdp module a x:[0..1]; [go] x=0 -> 1/2:(x'=1)+1/3:true;",
    "mdp module a x:[0..1]; [go] min(x,max(1,-(2))) = (true ? 1 :",
    "mdp module a endmodule target " + "(".repeat(41) + "true" + ")".repeat(41) + ";",
    "$"
  };

  private static void ask(List<String> answers, String what, Trial.Call call) {
    Object got;
    try {
      got = call.on();
    } catch (RuntimeException e) {
      got = e.getClass().getSimpleName();
    }
    answers.add(what + ": " + got);
  }

  private static void askResult(List<String> answers, MarkovDesk desk) {
    answers.add("RESULT: " + desk.part(false, 0) + " " + desk.bits(false) + " / " + desk.part(true, 0) + " " + desk.bits(true));
  }

  /** What can be told of the MODEL, explored; at first all that is CLAIMED is 0. */
  private static List<String> tell(MarkovDesk desk) {
    List<String> answers = new ArrayList<>();
    ask(answers, "wrong", desk::wrong);
    ask(answers, "explore", desk::explore);
    for (int what = 0; what < 8; what++) {
      int w = what;
      ask(answers, "count " + what, () -> desk.count(w));
    }
    ask(answers, "check greatest", () -> desk.check(false));
    ask(answers, "check least", () -> desk.check(true));
    if (desk.count(4) > 0) {
      ask(answers, "solve greatest", () -> desk.solve(false));
      ask(answers, "solve least", () -> desk.solve(true));
    }
    for (int s = 0; s < Math.min(5, desk.count(4)); s++) {
      tellState(answers, desk, s);
    }
    return answers;
  }

  private static void tellState(List<String> answers, MarkovDesk desk, int s) {
    for (int what = 0; what < 4; what++) {
      int w = what;
      ask(answers, "state " + s + " " + what, () -> desk.state(s, w, 0));
    }
    for (int k = 0; k < 4; k++) {
      int at = k;
      ask(answers, "variable " + k, () -> desk.state(s, 4, at));
      ask(answers, "outcomes " + k, () -> desk.state(s, 5, at));
    }
    for (int c = 0; c < Math.min(2, desk.state(s, 0, 0)); c++) {
      int choice = c;
      ask(answers, "outcome " + c, () -> desk.outcome(s, choice, 1));
      ask(answers, "outcome " + c, () -> desk.outcome(s, choice, 0));
      askResult(answers, desk);
    }
    ask(answers, "value", () -> desk.value(false, s));
    askResult(answers, desk);
    ask(answers, "within", () -> desk.within(true, s, 2));
    askResult(answers, desk);
  }

  private static void claimAll(MarkovDesk desk) {
    for (int s = 0; s < desk.count(4); s++) {
      desk.claim(s, 1, 1);
    }
  }

  private static void behindEachOther() {
    Trial.says("Promise 3: THE TEXT is .. THE MODEL, not explored");
    for (String text : TEXTS) {
      Trial fresh = new Trial();
      int tokens = fresh.text(text);
      List<String> due = tell(fresh.desk);
      for (String before : TEXTS) {
        Trial used = new Trial();
        if (used.text(before) > 0) {
          tell(used.desk);
          claimAll(used.desk);
        }
        Trial.due("tokens", used.text(text), tokens);
        Trial.due(text + " behind " + before, tell(used.desk), due);
      }
    }
  }

  private static void exploredTwice() {
    Trial.says("Promise 5: THE MODEL is explored (anew: what was found before, POLICIES and what was CLAIMED are gone)");
    for (String text : TEXTS) {
      Trial fresh = new Trial();
      if (fresh.text(text) > 0) {
        List<String> due = tell(fresh.desk);
        claimAll(fresh.desk);
        Trial.due("again " + text, tell(fresh.desk), due);
      }
    }
  }

  private static void behindParts() {
    Trial.says("Promise 3: all of which is gone then, WRONG or not");
    String text = TEXTS[2];
    Trial fresh = new Trial();
    int tokens = fresh.text(text);
    List<String> due = tell(fresh.desk);
    for (int n = 0; n < text.length(); n++) {
      Trial used = new Trial();
      used.feed(text);
      int most = n;
      Trial.dueThrow("the first " + n, "IllegalArgumentException", () -> used.desk.end(most));
      Trial.due("tokens behind the first " + n, used.text(text), tokens);
      Trial.due("behind the first " + n, tell(used.desk), due);
    }
  }

  /** As much as there can be of all, twice. */
  private static void muchTwice() {
    Trial.says("as many TOKENS, COMMANDS and UPDATES as there may be, in two texts");
    String six = "[]x<9->0.1:true+0.1:true+0.1:true+0.1:true+0.1:true+0.5:true;";
    String[] much = {
      "mdp const int k=1" + "+1".repeat(743) + ";module a endmodule target true;",
      "mdp module a endmodule target 744=1" + "+1".repeat(743) + ";",
      "mdp module a x:[0..9];" + six.repeat(40) + "endmodule target x=0;",
      "mdp module a x:bool;" + "[]x->(x'=x);".repeat(40) + "endmodule target x" + "&x".repeat(500) + ";"
    };
    // 8 assignments in each of 24 UPDATES
    String eight = "(a'=a)&(b'=b)&(c'=c)&(d'=d)&(e'=e)&(f'=f)&(g'=g)&(h'=h)";
    Trial steps = new Trial();
    for (int i = 0; i < 2; i++) {
      String text = "mdp module m a:bool;b:bool;c:bool;d:bool;e:bool;f:bool;g:bool;h:bool;" + ("[]a->" + eight + ";").repeat(24) + "[]true->(h'=true);endmodule target h;";
      Trial.due("tokens", steps.text(text), 3 + 32 + 24 * 60 + 11 + 5);
      Trial.due("explore", steps.desk.explore(), 2);
      Trial.due("the last assignment", steps.desk.state(1, 4, 7), 1);
    }
    int[] due = {1500, 1496, 3 + 8 + 40 * 30 + 7, 3 + 4 + 40 * 11 + 2 + 1001 + 2};
    for (int i = 0; i < much.length; i++) {
      Trial trial = new Trial();
      Trial.due("tokens", trial.text(much[i]), due[i]);
      Trial.due("explore", trial.desk.explore(), 1);
      Trial.due("target", trial.desk.state(0, 1, 0), i == 3 ? 0 : 1);
      Trial.due("tokens again", trial.text(much[i]), due[i]);
      Trial.due("explore again", trial.desk.explore(), 1);
      Trial.due("target again", trial.desk.state(0, 1, 0), i == 3 ? 0 : 1);
      Trial.due("commands", trial.desk.count(2), i < 2 ? 0 : 40);
      Trial.due("choices", trial.desk.count(5), i == 2 ? 40 : 1);
      Trial.due("outcomes", trial.desk.count(6), i == 2 ? 40 : 1);
    }
  }

  public static void main(String[] args) {
    behindEachOther();
    exploredTwice();
    behindParts();
    muchTwice();
    Trial.finish();
  }
}
