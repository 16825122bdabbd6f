import java.math.BigInteger;
import java.util.ArrayList;
import java.util.Arrays;
import java.util.HashMap;
import java.util.HashSet;
import java.util.List;
import java.util.Map;
import java.util.Set;

/**
 * The document once more, as plainly as the whole Java library allows: a recursive descent, trees, fractions of
 * BigInteger, Gauss. Tests hold MarkovDesk against it; the two share no line.
 */
final class ReferenceDesk {
  static final class Wrong extends RuntimeException {
    private static final long serialVersionUID = 1L;
    final int at;
    Wrong(int at) { super(null, null, false, false); this.at = at; }
  }

  static final class Broken extends RuntimeException {
    private static final long serialVersionUID = 1L;
    Broken() { super(null, null, false, false); }
  }

  record Q(BigInteger n, BigInteger d) {
    static final Q ZERO = new Q(BigInteger.ZERO, BigInteger.ONE);
    static final Q ONE = new Q(BigInteger.ONE, BigInteger.ONE);
    static Q of(BigInteger n, BigInteger d) {
      if (d.signum() < 0) { n = n.negate(); d = d.negate(); }
      BigInteger g = n.gcd(d);
      return g.equals(BigInteger.ONE) ? new Q(n, d) : new Q(n.divide(g), d.divide(g));
    }
    static Q of(long n, long d) { return of(BigInteger.valueOf(n), BigInteger.valueOf(d)); }
    Q plus(Q o) { return of(n.multiply(o.d).add(o.n.multiply(d)), d.multiply(o.d)); }
    Q minus(Q o) { return of(n.multiply(o.d).subtract(o.n.multiply(d)), d.multiply(o.d)); }
    Q times(Q o) { return of(n.multiply(o.n), d.multiply(o.d)); }
    Q over(Q o) { return of(n.multiply(o.d), d.multiply(o.n)); }
    int cmp(Q o) { return n.multiply(o.d).compareTo(o.n.multiply(d)); }
    boolean zero() { return n.signum() == 0; }
  }

  record Tree(String op, char type, long number, Tree a, Tree b, Tree c) {}

  record Variable(String name, boolean bool, int low, int high, int init, int module) {}
  record Change(int variable, Tree tree) {}
  record Update(Q share, List<Change> changes) {}
  record Command(int module, String action, Tree guard, List<Update> updates) {}
  record Outcome(int state, Q share) {}

  private final List<Integer> fed = new ArrayList<>();
  private int wrongAt = -1;
  private boolean model;
  private boolean explored;
  private Q result = Q.ZERO;

  // the text
  private int[] t;
  private int from, at, tokens;
  private String kind, word;
  private static final Set<String> WORDS = new HashSet<>(Arrays.asList("mdp const int bool module endmodule init target true false min max mod".split(" ")));
  private static final String[] SIGNS = "-> .. => != <= >= = < > + - * / ! & | ? : ; , ' ( ) [ ]".split(" ");

  // the model
  private Map<String, Integer> constants;
  private List<Variable> variables;
  private Set<String> moduleNames;
  private int modules;
  private List<Command> commands;
  private List<String> actions;
  private Tree target;

  // its states
  private List<int[]> states;
  private List<Boolean> inTarget;
  private List<List<List<Outcome>>> choices;
  private final int[][] policy = new int[2][];
  private final Q[][] values = new Q[2][];
  private final int[] rounds = new int[2];
  private Q[] claimed;

  int feed(int a, int b, int c, int d, int e) {
    if (fed.size() + 20 > 8200) throw new IndexOutOfBoundsException();
    for (int w : new int[] {a, b, c, d, e}) for (int k = 3; k >= 0; k--) fed.add(w >> 8 * k & 255);
    return fed.size();
  }

  int end(int n) {
    if (n < 0 || n > 8192 || n > fed.size()) throw new IndexOutOfBoundsException();
    t = fed.subList(0, n).stream().mapToInt(i -> i).toArray();
    fed.clear();
    model = false;
    explored = false;
    wrongAt = -1;
    try {
      for (int i = 0; i < n; i++) if (t[i] != 10 && (t[i] < 32 || t[i] > 126)) throw new Wrong(i);
      readModel();
    } catch (Wrong w) {
      wrongAt = w.at;
      throw new IllegalArgumentException();
    }
    model = true;
    return tokens;
  }

  int wrong() { return wrongAt; }

  private int peek(int i) { return i < t.length ? t[i] : -1; }
  private static boolean letter(int c) { return c == '_' || c >= 'a' && c <= 'z' || c >= 'A' && c <= 'Z'; }
  private static boolean digit(int c) { return c >= '0' && c <= '9'; }
  private String text(int i, int j) {
    StringBuilder b = new StringBuilder();
    for (int k = i; k < j; k++) b.append((char) t[k]);
    return b.toString();
  }

  private void next() {
    for (;;) {
      if (peek(from) == 10 || peek(from) == 32) from++;
      else if (peek(from) == '/' && peek(from + 1) == '/') { while (from < t.length && t[from] != 10) from++; }
      else break;
    }
    at = from;
    if (++tokens > 1500) throw new Wrong(at);
    int c = peek(from);
    if (c < 0) { kind = "END"; return; }
    if (letter(c)) {
      int j = from;
      while (j < from + 20 && (letter(peek(j)) || digit(peek(j)))) j++;
      word = text(from, j);
      kind = WORDS.contains(word) ? word : "NAME";
      from = j;
      return;
    }
    if (digit(c)) {
      int j = from;
      while (digit(peek(j))) j++;
      kind = "INT";
      if (j - from > 6) throw new Wrong(at);
      if (j - from <= 3 && peek(j) == '.' && digit(peek(j + 1))) {
        int k = j + 1;
        while (digit(peek(k))) k++;
        if (k - j > 4) throw new Wrong(at);
        j = k;
        kind = "REAL";
      }
      if (letter(peek(j))) throw new Wrong(at);
      word = text(from, j);
      from = j;
      return;
    }
    for (String s : SIGNS) {
      if (text(from, Math.min(t.length, from + s.length())).equals(s)) { kind = s; from += s.length(); return; }
    }
    throw new Wrong(at);
  }

  private boolean is(String k) { return kind.equals(k); }
  private void expect(String k) { if (!is(k)) throw new Wrong(at); next(); }

  private boolean given(String name) {
    return constants.containsKey(name) || moduleNames.contains(name) || variableOf(name) >= 0;
  }
  private int variableOf(String name) {
    for (int i = 0; i < variables.size(); i++) if (variables.get(i).name.equals(name)) return i;
    return -1;
  }
  private String newName() {
    if (!is("NAME") || given(word)) throw new Wrong(at);
    String name = word;
    next();
    return name;
  }

  private void readModel() {
    constants = new HashMap<>();
    variables = new ArrayList<>();
    moduleNames = new HashSet<>();
    modules = 0;
    commands = new ArrayList<>();
    actions = new ArrayList<>();
    from = 0;
    tokens = 0;
    next();
    expect("mdp");
    while (is("const")) {
      next();
      expect("int");
      String name = newName();
      expect("=");
      Tree e = expression(false, 'i');
      int semi = at;
      expect(";");
      constants.put(name, fixed(e, semi));
    }
    if (!is("module")) throw new Wrong(at);
    while (is("module")) readModule();
    expect("target");
    target = expression(true, 'b');
    expect(";");
    if (!is("END")) throw new Wrong(at);
  }

  private int fixed(Tree e, int where) {
    try { return eval(e, null); } catch (Broken b) { throw new Wrong(where); }
  }

  private void readModule() {
    if (modules == 3) throw new Wrong(at);
    next();
    moduleNames.add(newName());
    while (is("NAME")) readVariable();
    while (is("[")) readCommand();
    expect("endmodule");
    modules++;
  }

  private void readVariable() {
    if (variables.size() == 8) throw new Wrong(at);
    String name = newName();
    expect(":");
    boolean bool = is("bool");
    int low = 0, high = 1;
    if (bool) next();
    else {
      expect("[");
      Tree a = expression(false, 'i');
      expect("..");
      Tree b = expression(false, 'i');
      int where = at;
      expect("]");
      low = fixed(a, where);
      high = fixed(b, where);
      if (low > high || (long) high - low >= 1000) throw new Wrong(where);
    }
    Tree e = null;
    if (is("init")) { next(); e = expression(false, bool ? 'b' : 'i'); }
    int where = at;
    expect(";");
    int init = e == null ? low : fixed(e, where);
    if (init < low || init > high) throw new Wrong(where);
    variables.add(new Variable(name, bool, low, high, init, modules));
  }

  private void readCommand() {
    if (commands.size() == 40) throw new Wrong(at);
    next();
    String action = null;
    if (is("NAME")) {
      action = word;
      if (!actions.contains(action)) actions.add(action);
      next();
    }
    expect("]");
    Tree guard = expression(true, 'b');
    expect("->");
    List<Update> updates = new ArrayList<>();
    Q sum = Q.ZERO;
    if (is("true") || is("(")) {
      updates.add(new Update(Q.ONE, readUpdate()));
      sum = Q.ONE;
    } else {
      for (;;) {
        Q p = readShare();
        expect(":");
        if (updates.size() == 6) throw new Wrong(at);
        updates.add(new Update(p, readUpdate()));
        sum = sum.plus(p);
        if (!is("+")) break;
        next();
      }
    }
    int semi = at;
    expect(";");
    if (!sum.equals(Q.ONE)) throw new Wrong(semi);
    commands.add(new Command(modules, action, guard, updates));
  }

  private Q readShare() {
    int last = at;
    Q q;
    boolean good;
    if (is("REAL")) {
      int dot = word.indexOf('.');
      int places = word.length() - dot - 1;
      q = Q.of(Long.parseLong(word.replace(".", "")), (long) Math.pow(10, places));
      good = true;
      next();
    } else {
      if (!is("INT")) throw new Wrong(at);
      long a = Long.parseLong(word), b = 1;
      next();
      if (is("/")) {
        next();
        if (!is("INT")) throw new Wrong(at);
        last = at;
        b = Long.parseLong(word);
        next();
      }
      good = a <= 999 && b <= 999 && b > 0;
      q = good ? Q.of(a, b) : Q.ZERO;
    }
    if (!good || q.zero() || q.cmp(Q.ONE) > 0) throw new Wrong(last);
    return q;
  }

  private List<Change> readUpdate() {
    List<Change> changes = new ArrayList<>();
    if (is("true")) { next(); return changes; }
    for (;;) {
      expect("(");
      if (!is("NAME")) throw new Wrong(at);
      int v = variableOf(word);
      if (v < 0 || variables.get(v).module != modules) throw new Wrong(at);
      for (Change c : changes) if (c.variable == v) throw new Wrong(at);
      next();
      expect("'");
      expect("=");
      changes.add(new Change(v, expression(true, variables.get(v).bool ? 'b' : 'i')));
      expect(")");
      if (!is("&")) return changes;
      next();
    }
  }

  private boolean variablesKnown;

  private Tree expression(boolean known, char type) {
    variablesKnown = known;
    Tree e = readE(0);
    if (e.type != type) throw new Wrong(at);
    return e;
  }

  private int deeper(int depth) {
    if (depth == 40) throw new Wrong(at);
    return depth + 1;
  }
  private static void need(boolean b, int where) { if (!b) throw new Wrong(where); }

  private Tree readE(int depth) {
    Tree a = readA(depth);
    if (!is("?")) return a;
    int where = at, d = deeper(depth);
    next();
    Tree b = readE(d);
    expect(":");
    Tree c = readE(d);
    need(a.type == 'b' && b.type == c.type, where);
    return new Tree("?", b.type, 0, a, b, c);
  }

  private Tree readA(int depth) {
    Tree a = readO(depth);
    if (!is("=>")) return a;
    int where = at, d = deeper(depth);
    next();
    Tree b = readA(d);
    need(a.type == 'b' && b.type == 'b', where);
    return new Tree("=>", 'b', 0, a, b, null);
  }

  private Tree readO(int depth) {
    Tree a = readN(depth);
    while (is("|")) {
      int where = at;
      next();
      Tree b = readN(depth);
      need(a.type == 'b' && b.type == 'b', where);
      a = new Tree("|", 'b', 0, a, b, null);
    }
    return a;
  }

  private Tree readN(int depth) {
    Tree a = readU(depth);
    while (is("&")) {
      int where = at;
      next();
      Tree b = readU(depth);
      need(a.type == 'b' && b.type == 'b', where);
      a = new Tree("&", 'b', 0, a, b, null);
    }
    return a;
  }

  private Tree readU(int depth) {
    if (!is("!")) return readR(depth);
    int where = at, d = deeper(depth);
    next();
    Tree a = readU(d);
    need(a.type == 'b', where);
    return new Tree("!", 'b', 0, a, null, null);
  }

  private Tree readR(int depth) {
    Tree a = readS(depth);
    if (!Arrays.asList("=", "!=", "<", "<=", ">", ">=").contains(kind)) return a;
    String op = kind;
    int where = at;
    next();
    Tree b = readS(depth);
    need(op.equals("=") || op.equals("!=") ? a.type == b.type : a.type == 'i' && b.type == 'i', where);
    return new Tree(op, 'b', 0, a, b, null);
  }

  private Tree readS(int depth) {
    Tree a = readT(depth);
    while (is("+") || is("-")) {
      String op = kind;
      int where = at;
      next();
      Tree b = readT(depth);
      need(a.type == 'i' && b.type == 'i', where);
      a = new Tree(op, 'i', 0, a, b, null);
    }
    return a;
  }

  private Tree readT(int depth) {
    Tree a = readF(depth);
    while (is("*")) {
      int where = at;
      next();
      Tree b = readF(depth);
      need(a.type == 'i' && b.type == 'i', where);
      a = new Tree("*", 'i', 0, a, b, null);
    }
    return a;
  }

  private Tree readF(int depth) {
    int where = at;
    if (is("-")) {
      int d = deeper(depth);
      next();
      Tree a = readF(d);
      need(a.type == 'i', where);
      return new Tree("neg", 'i', 0, a, null, null);
    }
    if (is("INT")) { Tree a = new Tree("number", 'i', Long.parseLong(word), null, null, null); next(); return a; }
    if (is("true") || is("false")) { Tree a = new Tree("number", 'b', is("true") ? 1 : 0, null, null, null); next(); return a; }
    if (is("NAME")) {
      Tree a;
      int v = variableOf(word);
      if (constants.containsKey(word)) a = new Tree("number", 'i', constants.get(word), null, null, null);
      else if (variablesKnown && v >= 0) a = new Tree("variable", variables.get(v).bool ? 'b' : 'i', v, null, null, null);
      else throw new Wrong(at);
      next();
      return a;
    }
    if (is("min") || is("max") || is("mod")) {
      String op = kind;
      int d = deeper(depth);
      next();
      expect("(");
      Tree a = readE(d);
      expect(",");
      Tree b = readE(d);
      expect(")");
      need(a.type == 'i' && b.type == 'i', where);
      return new Tree(op, 'i', 0, a, b, null);
    }
    if (!is("(")) throw new Wrong(at);
    int d = deeper(depth);
    next();
    Tree a = readE(d);
    expect(")");
    return a;
  }

  private static int narrow(long v) {
    if (v < Integer.MIN_VALUE || v > Integer.MAX_VALUE) throw new Broken();
    return (int) v;
  }
  private static int bit(boolean b) { return b ? 1 : 0; }

  private int eval(Tree e, int[] s) {
    switch (e.op) {
      case "number": return (int) e.number;
      case "variable": return s[(int) e.number];
      case "?": return eval(e.a, s) != 0 ? eval(e.b, s) : eval(e.c, s);
      case "=>": return eval(e.a, s) == 0 ? 1 : eval(e.b, s);
      case "|": return eval(e.a, s) != 0 ? 1 : eval(e.b, s);
      case "&": return eval(e.a, s) == 0 ? 0 : eval(e.b, s);
      case "!": return 1 - eval(e.a, s);
      case "neg": return narrow(-(long) eval(e.a, s));
      default:
    }
    long a = eval(e.a, s), b = eval(e.b, s);
    switch (e.op) {
      case "=": return bit(a == b);
      case "!=": return bit(a != b);
      case "<": return bit(a < b);
      case "<=": return bit(a <= b);
      case ">": return bit(a > b);
      case ">=": return bit(a >= b);
      case "+": return narrow(a + b);
      case "-": return narrow(a - b);
      case "*": return narrow(a * b);
      case "min": return (int) Math.min(a, b);
      case "max": return (int) Math.max(a, b);
      default:
        if (b <= 0) throw new Broken();
        return (int) ((a % b + b) % b);
    }
  }

  int explore() {
    if (!model) throw new IllegalStateException();
    explored = false;
    try { build(); } catch (Broken b) { throw new ArithmeticException(); }
    explored = true;
    policy[0] = policy[1] = null;
    values[0] = values[1] = null;
    claimed = new Q[states.size()];
    Arrays.fill(claimed, Q.ZERO);
    return states.size();
  }

  private void build() {
    states = new ArrayList<>();
    inTarget = new ArrayList<>();
    choices = new ArrayList<>();
    states.add(variables.stream().mapToInt(Variable::init).toArray());
    int all = 0;
    for (int s = 0; s < states.size(); s++) {
      int[] row = states.get(s);
      List<Command> on = new ArrayList<>();
      for (Command c : commands) if (eval(c.guard, row) != 0) on.add(c);
      inTarget.add(eval(target, row) != 0);
      List<List<Command>> ways = new ArrayList<>();
      for (Command c : on) if (c.action == null) ways.add(List.of(c));
      for (String action : actions) {
        List<List<Command>> joint = new ArrayList<>();
        joint.add(List.of());
        for (int m = 0; m < modules; m++) {
          int mm = m;
          if (commands.stream().noneMatch(c -> c.module == mm && action.equals(c.action))) continue;
          List<List<Command>> more = new ArrayList<>();
          for (List<Command> j : joint) for (Command c : on) if (c.module == m && action.equals(c.action)) {
            List<Command> k = new ArrayList<>(j);
            k.add(c);
            more.add(k);
          }
          joint = more;
        }
        ways.addAll(joint);
      }
      if (ways.isEmpty()) ways.add(List.of());
      List<List<Outcome>> found = new ArrayList<>();
      for (List<Command> way : ways) {
        if (++all > 200) throw new UnsupportedOperationException();
        found.add(outcomes(row, way));
      }
      choices.add(found);
    }
  }

  private List<Outcome> outcomes(int[] row, List<Command> way) {
    List<List<Update>> mixes = new ArrayList<>();
    mixes.add(List.of());
    for (Command c : way) {
      List<List<Update>> more = new ArrayList<>();
      for (List<Update> m : mixes) for (Update u : c.updates) {
        List<Update> k = new ArrayList<>(m);
        k.add(u);
        more.add(k);
      }
      mixes = more;
    }
    if (mixes.size() > 16) throw new UnsupportedOperationException();
    List<Outcome> out = new ArrayList<>();
    for (List<Update> mix : mixes) {
      int[] to = row.clone();
      Q p = Q.ONE;
      for (Update u : mix) {
        p = p.times(u.share);
        for (Change c : u.changes) {
          int v = eval(c.tree, row);
          Variable var = variables.get(c.variable);
          if (v < var.low || v > var.high) throw new Broken();
          to[c.variable] = v;
        }
      }
      int s = -1;
      for (int i = 0; i < states.size(); i++) if (Arrays.equals(states.get(i), to)) s = i;
      if (s < 0) {
        if (states.size() == 24) throw new UnsupportedOperationException();
        s = states.size();
        states.add(to);
      }
      boolean merged = false;
      for (int i = 0; i < out.size(); i++) if (out.get(i).state == s) {
        out.set(i, new Outcome(s, out.get(i).share.plus(p)));
        merged = true;
      }
      if (!merged) out.add(new Outcome(s, p));
    }
    return out;
  }

  private void needExplored() { if (!explored) throw new IllegalStateException(); }
  private void needState(int s) { if (s < 0 || s >= states.size()) throw new IndexOutOfBoundsException(); }
  private void needSolved(int w) { if (!explored || policy[w] == null) throw new IllegalStateException(); }

  int state(int s, int what, int k) {
    if (what < 0 || what > 5) throw new IllegalArgumentException();
    needExplored();
    if (what == 2 || what == 3) needSolved(what - 2);
    needState(s);
    int limit = what < 4 ? 1 : what == 4 ? variables.size() : choices.get(s).size();
    if (k < 0 || k >= limit) throw new IndexOutOfBoundsException();
    switch (what) {
      case 0: return choices.get(s).size();
      case 1: return bit(inTarget.get(s));
      case 2: case 3: return policy[what - 2][s];
      case 4: return states.get(s)[k];
      default: return choices.get(s).get(k).size();
    }
  }

  int outcome(int s, int c, int o) {
    needExplored();
    needState(s);
    if (c < 0 || c >= choices.get(s).size() || o < 0 || o >= choices.get(s).get(c).size()) throw new IndexOutOfBoundsException();
    Outcome x = choices.get(s).get(c).get(o);
    result = x.share;
    return x.state;
  }

  private boolean someTo(int s, int c, boolean[] set) {
    for (Outcome o : choices.get(s).get(c)) if (set[o.state]) return true;
    return false;
  }
  private boolean allTo(int s, int c, boolean[] set) {
    for (Outcome o : choices.get(s).get(c)) if (!set[o.state]) return false;
    return true;
  }

  private Q sum(int s, int c, Q[] v) {
    Q q = Q.ZERO;
    for (Outcome o : choices.get(s).get(c)) q = q.plus(o.share.times(v[o.state]));
    return q;
  }

  private Object[] plan(boolean least) {
    int n = states.size();
    boolean[] zero = new boolean[n];
    int[] pol = new int[n];
    if (!least) {
      boolean[] good = new boolean[n];
      for (int s = 0; s < n; s++) good[s] = inTarget.get(s);
      for (boolean more = true; more;) {
        more = false;
        boolean[] then = good.clone();
        for (int s = 0; s < n; s++) for (int c = 0; !good[s] && !then[s] && c < choices.get(s).size(); c++) if (someTo(s, c, good)) {
          then[s] = true;
          pol[s] = c;
          more = true;
        }
        good = then;
      }
      for (int s = 0; s < n; s++) zero[s] = !good[s];
    } else {
      for (int s = 0; s < n; s++) zero[s] = !inTarget.get(s);
      for (boolean more = true; more;) {
        more = false;
        for (int s = 0; s < n; s++) if (zero[s]) {
          boolean can = false;
          for (int c = 0; c < choices.get(s).size(); c++) can |= allTo(s, c, zero);
          if (!can) { zero[s] = false; more = true; }
        }
      }
      for (int s = 0; s < n; s++) for (int c = choices.get(s).size() - 1; zero[s] && c >= 0; c--) if (allTo(s, c, zero)) pol[s] = c;
    }
    int found = 0;
    for (;;) {
      Q[] v = valuesOf(pol, zero);
      found++;
      boolean changed = false;
      for (int s = 0; s < n; s++) if (!inTarget.get(s) && !zero[s]) {
        Q best = null;
        int which = 0;
        for (int c = 0; c < choices.get(s).size(); c++) {
          Q q = sum(s, c, v);
          if (best == null || (least ? q.cmp(best) < 0 : q.cmp(best) > 0)) { best = q; which = c; }
        }
        Q own = sum(s, pol[s], v);
        if (least ? best.cmp(own) < 0 : best.cmp(own) > 0) { pol[s] = which; changed = true; }
      }
      if (!changed) return new Object[] {pol, v, found};
    }
  }

  private Q[] valuesOf(int[] pol, boolean[] zero) {
    int n = states.size();
    Q[][] m = new Q[n][n + 1];
    for (int s = 0; s < n; s++) {
      Arrays.fill(m[s], Q.ZERO);
      m[s][s] = Q.ONE;
      if (inTarget.get(s)) m[s][n] = Q.ONE;
      else if (!zero[s]) for (Outcome o : choices.get(s).get(pol[s])) m[s][o.state] = m[s][o.state].minus(o.share);
    }
    for (int k = 0; k < n; k++) {
      int p = k;
      while (m[p][k].zero()) p++;
      Q[] x = m[p];
      m[p] = m[k];
      m[k] = x;
      for (int i = 0; i < n; i++) if (i != k && !m[i][k].zero()) {
        Q f = m[i][k].over(m[k][k]);
        for (int j = k; j <= n; j++) if (!m[k][j].zero()) m[i][j] = m[i][j].minus(f.times(m[k][j]));
      }
    }
    Q[] v = new Q[n];
    for (int s = 0; s < n; s++) v[s] = m[s][n].over(m[s][s]);
    return v;
  }

  int solve(boolean least) {
    needExplored();
    int w = bit(least);
    if (policy[w] == null) {
      Object[] plan = plan(least);
      policy[w] = (int[]) plan[0];
      values[w] = (Q[]) plan[1];
      rounds[w] = (Integer) plan[2];
    }
    return rounds[w];
  }

  boolean value(boolean least, int s) {
    needSolved(bit(least));
    needState(s);
    result = values[bit(least)][s];
    return result.equals(Q.ONE);
  }

  boolean within(boolean least, int s, int n) {
    if (n < 0 || n > 12) throw new IllegalArgumentException();
    needSolved(bit(least));
    needState(s);
    Q[] v = new Q[states.size()];
    for (int i = 0; i < v.length; i++) v[i] = inTarget.get(i) ? Q.ONE : Q.ZERO;
    for (int k = 0; k < n; k++) {
      Q[] w = new Q[v.length];
      for (int i = 0; i < v.length; i++) w[i] = inTarget.get(i) ? Q.ONE : sum(i, policy[bit(least)][i], v);
      v = w;
    }
    result = v[s];
    return result.zero();
  }

  void claim(int s, long a, long b) {
    if (b <= 0 || a < 0) throw new IllegalArgumentException();
    needExplored();
    needState(s);
    claimed[s] = Q.of(a, b);
  }

  void claimResult(int s) {
    needExplored();
    needState(s);
    if (result.d.bitLength() > 5000) throw new UnsupportedOperationException();
    claimed[s] = result;
  }

  boolean check(boolean least) {
    needExplored();
    return Arrays.equals(claimed, values[bit(least)] != null ? values[bit(least)] : (Q[]) plan(least)[1]);
  }

  int bits(boolean below) { return (below ? result.d : result.n).bitLength(); }

  int part(boolean below, int k) {
    if (k < 0) throw new IndexOutOfBoundsException();
    BigInteger x = below ? result.d : result.n;
    if (31L * k > x.bitLength()) return 0;
    return x.shiftRight(31 * k).and(BigInteger.valueOf(0x7fffffffL)).intValue();
  }

  int count(int what) {
    if (what < 0 || what > 7) throw new IllegalArgumentException();
    if (what < 4 ? !model : !explored) return 0;
    switch (what) {
      case 0: return variables.size();
      case 1: return modules;
      case 2: return commands.size();
      case 3: return actions.size();
      case 4: return states.size();
      case 5: return choices.stream().mapToInt(List::size).sum();
      case 6: return choices.stream().flatMap(List::stream).mapToInt(List::size).sum();
      default: return (int) inTarget.stream().filter(b -> b).count();
    }
  }
}
