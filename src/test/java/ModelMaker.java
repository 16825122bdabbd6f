import java.util.ArrayList;
import java.util.List;
import java.util.Random;

/** Makes texts of models from a seed: most of them right, some bent. */
final class ModelMaker {
  private static final String OCTETS = "()[];:,'=<>!&|?+-*/.0123456789xyv_ \n$%\u0007\u00ff";

  private final Random random;
  private final List<String> ints = new ArrayList<>();
  private final List<String> bools = new ArrayList<>();
  private boolean careless;

  ModelMaker(long seed) {
    random = new Random(seed);
  }

  private int below(int n) {
    return random.nextInt(n);
  }

  private boolean oneIn(int n) {
    return random.nextInt(n) == 0;
  }

  private String pick(String... of) {
    return of[below(of.length)];
  }

  private String gap() {
    return oneIn(40) ? pick("  ", "\n", " // a remark; $ 1x\n", "//\n", " ") : oneIn(3) ? " " : "";
  }

  /** Most operands that an operator could tear apart stand in brackets. */
  private String held(String operand) {
    return oneIn(8) || operand.length() < 4 ? operand : "(" + operand + ")";
  }

  private String intOf(int depth) {
    if (careless && oneIn(60)) {
      return boolOf(depth - 1);
    }
    if (depth <= 0 || oneIn(3)) {
      return ints.isEmpty() || oneIn(2) ? "" + below(oneIn(50) ? 1000000 : 4) : ints.get(below(ints.size()));
    }
    String a = held(intOf(depth - 1));
    String b = held(intOf(depth - 1));
    switch (below(9)) {
      case 0: return a + gap() + "+" + gap() + b;
      case 1: return a + gap() + "-" + gap() + b;
      case 2: return a + gap() + "*" + gap() + b;
      case 3: return "-" + gap() + a;
      case 4: return pick("min", "max") + gap() + "(" + a + gap() + "," + b + ")";
      case 5: return "mod(" + a + "," + (oneIn(8) ? b : "" + (1 + below(4))) + ")";
      case 6: return "(" + gap() + held(boolOf(depth - 1)) + "?" + a + ":" + b + ")";
      default: return "(" + a + gap() + ")";
    }
  }

  private String boolOf(int depth) {
    if (careless && oneIn(60)) {
      return intOf(depth - 1);
    }
    if (depth <= 0) {
      return bools.isEmpty() || oneIn(2) ? pick("true", "false") : bools.get(below(bools.size()));
    }
    String a = held(boolOf(depth - 1));
    String b = held(boolOf(depth - 1));
    switch (below(ints.isEmpty() ? 7 : 12)) {
      case 0: return a + gap() + "&" + gap() + b;
      case 1: return a + gap() + "|" + gap() + b;
      case 2: return a + gap() + "=>" + gap() + b;
      case 3: return "!" + gap() + a;
      case 4: return "(" + a + ")";
      case 5: return "(" + a + (oneIn(2) ? "=" : "!=") + "(" + b + "))";
      case 6: return a + " ? " + b + " : " + held(boolOf(depth - 1));
      default: return held(intOf(depth - 1)) + gap() + pick("=", "!=", "<", "<=", ">", ">=") + gap() + held(intOf(depth - 1));
    }
  }

  private String shares(List<String> updates) {
    int n = updates.size();
    if (n == 1 && oneIn(2)) {
      return updates.get(0);
    }
    int whole = oneIn(3) ? 1000 : Math.max(n, oneIn(2) ? 1 + below(999) : 1 + below(12));
    int[] part = new int[n];
    int left = whole;
    for (int i = 0; i < n; i++) {
      int most = left - (n - 1 - i);
      part[i] = i == n - 1 ? left : 1 + below(oneIn(3) ? most : (most + 1) / 2);
      left -= part[i];
    }
    StringBuilder b = new StringBuilder();
    for (int i = 0; i < n; i++) {
      b.append(i > 0 ? " + " : "");
      if (whole == 1000) {
        b.append(part[i] / 1000).append('.').append(String.format("%03d", part[i] % 1000));
      } else if (part[i] == whole && oneIn(2)) {
        b.append(1);
      } else {
        b.append(part[i]).append(gap()).append('/').append(gap()).append(whole);
      }
      b.append(gap()).append(":").append(gap()).append(updates.get(i));
    }
    return b.toString();
  }

  String model() {
    careless = oneIn(3);
    StringBuilder b = new StringBuilder("mdp\n");
    int constants = below(3);
    for (int i = 0; i < constants; i++) {
      b.append("const int k").append(i).append(" = ").append(intOf(oneIn(3) ? 3 : 0)).append(";\n");
      ints.add("k" + i);
    }
    int modules = 1 + below(3);
    int known = 0;
    for (int m = 0; m < modules; m++) {
      b.append("module m").append(m).append("\n");
      List<String> own = new ArrayList<>();
      int variables = below(modules == 1 ? 4 : 3);
      List<String> newInts = new ArrayList<>();
      List<String> newBools = new ArrayList<>();
      for (int v = 0; v < variables; v++) {
        String name = "v" + known++;
        if (oneIn(3)) {
          b.append(' ').append(name).append(" : bool").append(oneIn(2) ? " init " + pick("true", "false") : "").append(";\n");
          newBools.add(name);
          own.add(name + " bool");
        } else {
          int high = 1 + below(4);
          b.append(' ').append(name).append(" : [").append(oneIn(9) ? "-1" : "0").append("..").append(high).append("]")
              .append(oneIn(3) ? " init " + below(high + 1) : "").append(";\n");
          newInts.add(name);
          own.add(name + " " + high);
        }
      }
      ints.addAll(newInts);
      bools.addAll(newBools);
      int commands = below(7);
      for (int c = 0; c < commands; c++) {
        b.append(" [").append(oneIn(2) ? "" : pick("go", "stop")).append("] ").append(boolOf(oneIn(3) ? 3 : oneIn(2) ? 2 : 1)).append(" -> ");
        List<String> updates = new ArrayList<>();
        int n = 1 + below(oneIn(6) ? 6 : 3);
        for (int u = 0; u < n; u++) {
          StringBuilder update = new StringBuilder();
          for (String variable : own) {
            if (oneIn(own.size())) {
              String[] of = variable.split(" ");
              update.append(update.length() > 0 ? " & " : "").append("(").append(of[0]).append("'=");
              if (of[1].equals("bool")) {
                update.append(boolOf(2));
              } else if (oneIn(2)) {
                update.append(below(Integer.parseInt(of[1]) + 1));
              } else {
                update.append(pick("mod(" + intOf(1) + ", " + of[1] + ")", "min(" + of[0] + " + 1, " + of[1] + ")", "max(0, " + of[0] + " - 1)",
                    "max(0, min(" + of[1] + ", " + intOf(2) + "))", oneIn(9) ? intOf(2) : of[0]));
              }
              update.append(")");
            }
          }
          updates.add(update.length() == 0 ? "true" : update.toString());
        }
        b.append(shares(updates)).append(";\n");
      }
      b.append("endmodule\n");
    }
    b.append("target ").append(boolOf(oneIn(2) ? 2 : 1)).append(";\n");
    return b.toString();
  }

  /** A chain of many states with two or three ways each: long numbers, many policies. */
  String chain(int states, int widest) {
    StringBuilder b = new StringBuilder("mdp module a x : [0.." + (states - 1) + "];");
    for (int s = 0; s < states - 2; s++) {
      int ways = 1 + below(widest > 4 ? 1 : 2);
      for (int w = 0; w < ways && b.length() < 5500; w++) {
        b.append("\n[] x=").append(s).append(" -> ");
        int n = 2 + below(widest - 1);
        List<String> updates = new ArrayList<>();
        for (int u = 0; u < n; u++) {
          int to = u == 0 ? s + 1 : below(states);
          updates.add("(x'=" + to + ")");
        }
        b.append(shares(updates)).append(";");
      }
    }
    return b.append(" endmodule target x=").append(states - 1).append(";").toString();
  }

  /** Any ways between states, with few different shares: circles, ways that stay away, and choices that are worth the same. */
  String maze(int states) {
    StringBuilder b = new StringBuilder("mdp module a x:[0.." + (states - 1) + "];");
    int commands = 0;
    for (int s = 0; s < states; s++) {
      int ways = Math.min(below(4), 40 - commands);
      for (int w = 0; w < ways; w++) {
        String[] to = new String[3];
        for (int u = 0; u < 3; u++) {
          to[u] = oneIn(6) ? "true" : "(x'=" + (oneIn(3) ? (s + 1) % states : below(states)) + ")";
        }
        b.append("\n[]x=").append(s).append("->");
        switch (below(4)) {
          case 0: b.append(to[0]); break;
          case 1: b.append("1/2:").append(to[0]).append("+1/2:").append(to[1]); break;
          case 2: b.append("1/3:").append(to[0]).append("+2/3:").append(to[1]); break;
          default: b.append("0.5:").append(to[0]).append("+1/4:").append(to[1]).append("+0.25:").append(to[2]);
        }
        b.append(";");
        commands++;
      }
    }
    b.append(" endmodule target x=").append(below(states));
    return b.append(oneIn(3) ? "|x=" + below(states) : "").append(";").toString();
  }

  /** Pairs of shares, each pair 1 / n together, with great denominators that have little in common. */
  private List<String> pairs(int n) {
    List<String> made = new ArrayList<>();
    for (int i = 0; i < n; i++) {
      int whole = n * (999 / n - below(60));
      int part = 1 + below(whole / n - 1);
      made.add(part + "/" + whole);
      made.add(whole / n - part + "/" + whole);
    }
    return made;
  }

  /** Each state leads to many, one of them a state that nothing leads out of. */
  String spread(int states, int n) {
    StringBuilder b = new StringBuilder("mdp module a x:[0.." + (states - 1) + "];");
    for (int s = 0; s < states - 2; s++) {
      b.append("\n[]x=").append(s).append("->");
      List<String> parts = pairs(n);
      for (int i = 0; i < parts.size(); i++) {
        int to = i == 1 && oneIn(2) ? states - 1 - below(2) : (s * 2 * n + i + 1) % states;
        b.append(i > 0 ? "+" : "").append(parts.get(i)).append(":").append(i > 0 && i % 2 == 0 ? "true" : "(x'=" + to + ")");
      }
      b.append(";");
    }
    return b.append(" endmodule target x=").append(states - 1).append(";").toString();
  }

  private static boolean prime(int n) {
    for (int d = 2; d * d <= n; d++) {
      if (n % d == 0) {
        return false;
      }
    }
    return true;
  }

  /** Primes from there down, each with a share of it and what is left of 1 / n. */
  private static String shares(int[] from, int n, String first, String second) {
    do {
      from[0]--;
    } while (!prime(from[0]));
    int p = from[0];
    return (p / 2 + 1) + "/" + p * n + ":" + first + "+" + (p - p / 2 - 1) + "/" + p * n + ":" + second;
  }

  /** 24 states whose steps have about the greatest denominators that 1,500 tokens can tell: above 5,000 bits in 12 steps. */
  static String longest() {
    return longest(500, 150);
  }

  /** The same with other denominators, those of its first state apart, to come to a certain length. */
  static String longest(int most, int first) {
    return longest(most, first, 1000);
  }

  /** The same with other denominators in the second module's first states, for the last bit. */
  static String longest(int most, int first, int second) {
    int[] from = {most};
    int[] low = {first};
    int[] high = {second};
    StringBuilder b = new StringBuilder("mdp module a x:[0..11];\n[go]x=0->");
    b.append(shares(low, 3, "true", "(x'=1)")).append("+").append(shares(low, 3, "(x'=2)", "(x'=3)")).append("+")
        .append(shares(low, 3, "(x'=4)", "(x'=5)")).append(";");
    for (int x = 1; x < 11; x++) {
      b.append("\n[go]x=").append(x).append("->").append(shares(from, 2, "true", "(x'=11)")).append("+")
          .append(shares(from, 2, "true", x < 6 ? "(x'=" + (x + 5) + ")" : "(x'=11)")).append(";");
    }
    b.append(" endmodule module b y:bool;");
    for (int x = 0; x < 11; x++) {
      for (int y = 0; y < 2; y++) {
        String to = "(y'=" + (y == 0) + ")";
        b.append("\n[go]x=").append(x).append(y == 1 ? "&y->" : "&!y->");
        b.append(x == 0 ? shares(high, 1, "true", to) : shares(from, 2, "true", to) + "+" + shares(from, 2, "true", to)).append(";");
      }
    }
    return b.append(" endmodule target x=11&y;").toString();
  }

  /** Two modules that step together, each of their commands with four updates. */
  String together(int xs, int ys) {
    StringBuilder b = new StringBuilder("mdp ");
    for (int m = 0; m < 2; m++) {
      String v = m == 0 ? "x" : "y";
      int most = m == 0 ? xs : ys;
      b.append("module m").append(v).append(" ").append(v).append(":[0..").append(most - 1).append("];");
      for (int i = 0; i < most; i++) {
        int ways = oneIn(3) ? 2 : 1;
        for (int w = 0; w < ways; w++) {
          b.append("\n[go]").append(v).append("=").append(i).append("->");
          List<String> parts = pairs(2);
          for (int k = 0; k < parts.size(); k++) {
            b.append(k > 0 ? "+" : "").append(parts.get(k)).append(":(").append(v).append("'=").append(oneIn(2) ? (i + 1) % most : below(most)).append(")");
          }
          b.append(";");
        }
      }
      b.append(" endmodule\n");
    }
    return b.append("target x=").append(xs - 1).append("&y=").append(ys - 1).append(";").toString();
  }

  String bend(String text) {
    StringBuilder b = new StringBuilder(text);
    int times = 1 + below(2);
    for (int i = 0; i < times && b.length() > 4; i++) {
      int at = below(b.length());
      switch (below(6)) {
        case 0: b.deleteCharAt(at); break;
        case 1: b.setCharAt(at, OCTETS.charAt(below(OCTETS.length()))); break;
        case 2: b.insert(at, pick("(", ")", "!", "-", "?", ":", "=>", "=", "<", "+", "*", "&", "|", "$", "true", "1", "0.5", "v0", " 1234567", " 0.1234", " 1.5x ", "min(", ",", "..", ".", "//", "'", "[", "]", ";")); break;
        case 3: b.setLength(at); break;
        case 4: {
          int to = Math.min(b.length(), at + 1 + below(12));
          b.insert(below(b.length()), b.substring(at, to));
          break;
        }
        default: b.delete(at, Math.min(b.length(), at + 1 + below(6)));
      }
    }
    return b.toString();
  }

  /** A heap of tokens that only the beginning of makes sense, to be read as one expression. */
  String heap() {
    StringBuilder b = new StringBuilder("mdp const int k = ");
    int n = 1 + below(14);
    for (int i = 0; i < n; i++) {
      b.append(oneIn(3) ? "" : " ").append(pick("1", "2", "true", "false", "(", ")", "!", "-", "+", "*", "=", "<", "&", "|", "=>", "?", ":", "min(", "max(", "mod(", ",", "$", "3", "1", "2", ")", "(1)", "(true)"));
    }
    return b.append(oneIn(2) ? ";" : "").append(pick("", "", " $", " x")).toString();
  }
}
