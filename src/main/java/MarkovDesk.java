/**
 * An exact model checker for Markov decision processes. The words THE TEXT, STATE, CHOICE, OUTCOME,
 * POLICY, VALUE, RESULT, WRONG, BROKEN and FULL are those of the document.
 */
public final class MarkovDesk {
  private static final int FED_MOST = 8200;
  private static final int TEXT_MOST = 8192;
  private static final int TOKENS_MOST = 1500;
  private static final int NAME_LONGEST = 20;
  private static final int INT_LONGEST = 6;
  private static final int REAL_LONGEST = 3;
  private static final int MODULES_MOST = 3;
  private static final int VARIABLES_MOST = 8;
  private static final int COMMANDS_MOST = 40;
  private static final int UPDATES_MOST = 6;
  private static final int NESTED_MOST = 40;
  private static final int SHARE_MOST = 999;
  // A P in one number: both of its parts are at most 1000.
  private static final int SHARE_BASE = 1001;
  private static final int WHOLE_SHARE = SHARE_BASE + 1;
  private static final int VALUES_MOST = 1000;
  private static final int STATES_MOST = 24;
  private static final int CHOICES_MOST = 200;
  private static final int OUTCOMES_MOST = 16;
  private static final int WITHIN_MOST = 12;
  private static final int CLAIM_BITS = 5000;

  // A constant takes six tokens at least, and so does an assignment.
  private static final int NAMES_MOST = TOKENS_MOST / 6 + VARIABLES_MOST + MODULES_MOST;
  private static final int STEPS_MOST = TOKENS_MOST / 6;
  // No token makes more than one instruction, and the token behind an expression makes its STOP.
  private static final int CODE_MOST = TOKENS_MOST + 1;
  // Each of the nested levels keeps at most five operators and four operands waiting.
  private static final int PENDING_MOST = 6 * (NESTED_MOST + 1) + 2;

  private static final int LIMB_BITS = 31;
  private static final long LIMB = 0x7fffffffL;
  // The denominator of a CHOICE is at most 10^12: the least common multiple of a COMMAND's
  // denominators is at most the root of their product, for each prime's power must stand in two
  // of them if they sum up to 1, and 16 OUTCOMES come from at most 8 UPDATES that are not alone.
  // A determinant of 24 such rows has at most 24 * 40 bits.
  private static final int VALUE_LIMBS = 34;
  private static final int WIDE_LIMBS = 2 * VALUE_LIMBS;
  private static final int CLAIM_LIMBS = CLAIM_BITS / LIMB_BITS + 2;
  // Each of 12 steps brings at most the least common multiple of 24 such denominators.
  private static final int WALK_LIMBS = WITHIN_MOST * 31 + 8;
  private static final int ROUNDS_MOST = 1000000;

  private static final int END = 0;
  private static final int BAD = 1;
  private static final int NAME = 2;
  private static final int INT = 3;
  private static final int REAL = 4;
  private static final int MDP = 5;
  private static final int CONST = 6;
  private static final int INT_WORD = 7;
  private static final int BOOL_WORD = 8;
  private static final int MODULE = 9;
  private static final int ENDMODULE = 10;
  private static final int INIT = 11;
  private static final int TARGET = 12;
  private static final int TRUE = 13;
  private static final int FALSE = 14;
  private static final int MIN = 15;
  private static final int MAX = 16;
  private static final int MOD = 17;
  private static final int ARROW = 18;
  private static final int DOTS = 19;
  private static final int IMPLY = 20;
  private static final int UNEQUAL = 21;
  private static final int AT_MOST = 22;
  private static final int AT_LEAST = 23;
  private static final int EQUAL = 24;
  private static final int LESS = 25;
  private static final int MORE = 26;
  private static final int PLUS = 27;
  private static final int MINUS = 28;
  private static final int TIMES = 29;
  private static final int OVER = 30;
  private static final int NOT = 31;
  private static final int AND = 32;
  private static final int OR = 33;
  private static final int ASK = 34;
  private static final int COLON = 35;
  private static final int SEMICOLON = 36;
  private static final int COMMA = 37;
  private static final int PRIME = 38;
  private static final int OPEN = 39;
  private static final int SHUT = 40;
  private static final int OPEN_SQUARE = 41;
  private static final int SHUT_SQUARE = 42;
  // Instructions bear the numbers of the tokens they come from; these two come from none of their own.
  private static final int NEGATE = 43;
  private static final int STOP = 44;

  // In the order of the numbers above, from MDP, ARROW and EQUAL on.
  private static final String WORDS =
      "mdp const int bool module endmodule init target true false min max mod ";
  private static final String PAIRS = "->..=>!=<=>=";
  private static final String SINGLES = "=<>+-*/!&|?:;,'()[]";

  private static final int NO_TYPE = 0;
  private static final int INT_TYPE = 1;
  private static final int BOOL_TYPE = 2;

  private static final int CONSTANT_ROLE = 0;
  private static final int VARIABLE_ROLE = 1;
  private static final int MODULE_ROLE = 2;

  // How tightly what waits on the reader's stack binds; brackets hold off all operators.
  private static final int BRACKET_RANK = 0;
  private static final int ASK_RANK = 1;
  private static final int IMPLY_RANK = 2;
  private static final int OR_RANK = 3;
  private static final int AND_RANK = 4;
  private static final int NOT_RANK = 5;
  private static final int RELATION_RANK = 6;
  private static final int SUM_RANK = 7;
  private static final int PRODUCT_RANK = 8;
  private static final int TIGHTEST_RANK = 9;

  private final Tokens tokens;
  private final Model model;
  private final Reader reader;
  private final Space space;
  private final Planner planner;
  private final Answer greatest;
  private final Answer smallest;
  private final Walk walk;
  private final Ratio result;
  private final Nat[] claimTop;
  private final Nat[] claimBelow;
  private final Nat left;
  private final Nat right;

  public MarkovDesk() {
    Machine machine = new Machine();
    tokens = new Tokens();
    model = new Model();
    reader = new Reader(tokens, machine, model);
    space = new Space(machine, model);
    planner = new Planner(space);
    greatest = new Answer(false);
    smallest = new Answer(true);
    walk = new Walk(space);
    result = new Ratio();
    claimTop = new Nat[STATES_MOST];
    claimBelow = new Nat[STATES_MOST];
    for (int s = 0; s < STATES_MOST; s++) {
      claimTop[s] = new Nat(CLAIM_LIMBS);
      claimBelow[s] = new Nat(CLAIM_LIMBS);
    }
    left = new Nat(CLAIM_LIMBS + VALUE_LIMBS + 2);
    right = new Nat(CLAIM_LIMBS + VALUE_LIMBS + 2);
  }

  public int feed(int a, int b, int c, int d, int e) throws IndexOutOfBoundsException {
    if (tokens.fed > FED_MOST - 20) {
      throw new IndexOutOfBoundsException();
    }
    tokens.push(a);
    tokens.push(b);
    tokens.push(c);
    tokens.push(d);
    tokens.push(e);
    return tokens.fed;
  }

  public int end(int n) throws IndexOutOfBoundsException, IllegalArgumentException {
    if (n < 0 || n > TEXT_MOST || n > tokens.fed) {
      throw new IndexOutOfBoundsException();
    }
    // What is gone even if THE TEXT is WRONG goes before it is read.
    tokens.fed = 0;
    model.ready = false;
    forget();
    // The grammar's outermost rule stands here, so that calls stay eight deep at its innermost one.
    reader.startOn(n);
    for (int i = 0; i < TOKENS_MOST && reader.kind() == CONST; i++) {
      reader.readConstant();
    }
    boolean more = true;
    for (int i = 0; i <= MODULES_MOST && more; i++) {
      reader.openModule();
      for (int k = 0; k < TOKENS_MOST && reader.kind() == NAME; k++) {
        reader.readVariable();
      }
      for (int k = 0; k < TOKENS_MOST && reader.kind() == OPEN_SQUARE; k++) {
        reader.readCommand();
      }
      more = reader.closeModule();
    }
    reader.readTarget();
    model.ready = true;
    return tokens.made;
  }

  public int wrong() {
    return reader.wrongAt;
  }

  public int explore()
      throws IllegalStateException, ArithmeticException, UnsupportedOperationException {
    if (!model.ready) {
      throw new IllegalStateException();
    }
    forget();
    space.build();
    return space.states;
  }

  public int state(int s, int what, int k)
      throws IllegalArgumentException, IllegalStateException, IndexOutOfBoundsException {
    if (what < 0 || what > 5) {
      throw new IllegalArgumentException();
    }
    if (!space.ready || what == 2 && !greatest.told || what == 3 && !smallest.told) {
      throw new IllegalStateException();
    }
    if (!space.hasState(s)) {
      throw new IndexOutOfBoundsException();
    }
    int parts = what == 4 ? model.variables : what == 5 ? space.choicesOf(s) : 1;
    if (k < 0 || k >= parts) {
      throw new IndexOutOfBoundsException();
    }
    switch (what) {
      case 0: return space.choicesOf(s);
      case 1: return space.target[s] ? 1 : 0;
      case 2: return greatest.policy[s];
      case 3: return smallest.policy[s];
      case 4: return space.variableOf(s, k);
      default: return space.outcomesOf(s, k);
    }
  }

  public int outcome(int s, int c, int o) throws IllegalStateException, IndexOutOfBoundsException {
    requireExplored();
    if (!space.hasState(s) || c < 0 || c >= space.choicesOf(s)
        || o < 0 || o >= space.outcomesOf(s, c)) {
      throw new IndexOutOfBoundsException();
    }
    int choice = space.firstChoice[s] + c;
    int at = space.firstOutcome[choice] + o;
    left.put(space.top[at]);
    right.put(space.below[choice]);
    result.hold(left, right);
    return space.reached[at];
  }

  public int solve(boolean least) throws IllegalStateException {
    requireExplored();
    Answer answer = least ? smallest : greatest;
    planner.find(answer);
    answer.told = true;
    return answer.policies;
  }

  public boolean value(boolean least, int s)
      throws IllegalStateException, IndexOutOfBoundsException {
    Answer answer = least ? smallest : greatest;
    requireTold(answer);
    requireState(s);
    result.hold(answer.top[s], answer.below);
    return result.top.against(result.below) == 0;
  }

  public boolean within(boolean least, int s, int n)
      throws IllegalArgumentException, IllegalStateException, IndexOutOfBoundsException {
    if (n < 0 || n > WITHIN_MOST) {
      throw new IllegalArgumentException();
    }
    Answer answer = least ? smallest : greatest;
    requireTold(answer);
    requireState(s);
    walk.go(answer, s, n);
    result.hold(walk.arrived, walk.below);
    return result.top.size == 0;
  }

  public void claim(int s, long a, long b)
      throws IllegalArgumentException, IllegalStateException, IndexOutOfBoundsException {
    if (b <= 0 || a < 0) {
      throw new IllegalArgumentException();
    }
    requireExplored();
    requireState(s);
    claimTop[s].put(a);
    claimBelow[s].put(b);
  }

  public void claimResult(int s)
      throws IllegalStateException, IndexOutOfBoundsException, UnsupportedOperationException {
    requireExplored();
    requireState(s);
    if (result.below.bitLength() > CLAIM_BITS) {
      throw new UnsupportedOperationException();
    }
    claimTop[s].copy(result.top);
    claimBelow[s].copy(result.below);
  }

  public boolean check(boolean least) throws IllegalStateException {
    requireExplored();
    Answer answer = least ? smallest : greatest;
    planner.find(answer);
    boolean same = true;
    for (int s = 0; s < space.states && same; s++) {
      left.toProduct(claimTop[s], answer.below);
      right.toProduct(answer.top[s], claimBelow[s]);
      same = left.against(right) == 0;
    }
    return same;
  }

  public int bits(boolean below) {
    return below ? result.below.bitLength() : result.top.bitLength();
  }

  public int part(boolean below, int k) throws IndexOutOfBoundsException {
    if (k < 0) {
      throw new IndexOutOfBoundsException();
    }
    return below ? result.below.digit(k) : result.top.digit(k);
  }

  public int count(int what) throws IllegalArgumentException {
    if (what < 0 || what > 7) {
      throw new IllegalArgumentException();
    }
    if (what < 4 ? !model.ready : !space.ready) {
      return 0;
    }
    switch (what) {
      case 0: return model.variables;
      case 1: return model.modules;
      case 2: return model.commands;
      case 3: return model.actions;
      case 4: return space.states;
      case 5: return space.choices;
      case 6: return space.outcomes;
      default: return space.targets();
    }
  }

  private void forget() {
    space.ready = false;
    greatest.clear();
    smallest.clear();
    for (int s = 0; s < STATES_MOST; s++) {
      claimTop[s].put(0);
      claimBelow[s].put(1);
    }
  }

  private void requireExplored() {
    if (!space.ready) {
      throw new IllegalStateException();
    }
  }

  private static void requireTold(Answer answer) {
    if (!answer.told) {
      throw new IllegalStateException();
    }
  }

  private void requireState(int s) {
    if (!space.hasState(s)) {
      throw new IndexOutOfBoundsException();
    }
  }

  /** The greatest common divisor; of 0 and 0 it is 1, so that it always divides. */
  private static long commonDivisor(long a, long b) {
    long x = a;
    long y = b;
    for (int i = 0; i < 100 && y != 0; i++) {
      long rest = x % y;
      x = y;
      y = rest;
    }
    return x == 0 ? 1 : x;
  }

  /** What is fed, and the TOKENS of THE TEXT. */
  private static final class Tokens {
    private final int[] octet = new int[FED_MOST];
    private final int[] kind = new int[TOKENS_MOST + 1];
    private final int[] place = new int[TOKENS_MOST + 1];
    private final int[] length = new int[TOKENS_MOST + 1];
    private final int[] number = new int[TOKENS_MOST + 1];
    private int fed;
    private int textEnd;
    private int made;

    private void push(int word) {
      for (int shift = 24; shift >= 0 && fed < octet.length; shift -= 8) {
        octet[fed] = word >>> shift & 255;
        fed++;
      }
    }

    /** Where the first octet of n stands that no text may have, or -1. */
    private int foreignOctet(int n) {
      for (int i = 0; i < n && i < octet.length; i++) {
        if (octet[i] != 10 && (octet[i] < 32 || octet[i] > 126)) {
          return i;
        }
      }
      return -1;
    }

    /** Stops at what is no TOKEN and leaves it as BAD, so that it is WRONG only when it is come to. */
    private void scan(int n) {
      textEnd = Math.min(n, octet.length);
      made = 0;
      int from = 0;
      boolean more = true;
      for (int i = 0; i < kind.length && more; i++) {
        from = afterBlanks(from);
        scanToken(i, from);
        if (i == TOKENS_MOST) {
          kind[i] = BAD;
        }
        made = i + 1;
        more = kind[i] != END && kind[i] != BAD;
        from += length[i];
      }
    }

    private int octetAt(int i) {
      return i >= 0 && i < textEnd ? octet[i] : 0;
    }

    private int afterBlanks(int from) {
      boolean remark = false;
      for (int i = from; i < textEnd; i++) {
        int c = octetAt(i);
        if (remark) {
          remark = c != 10;
        } else if (c == '/' && octetAt(i + 1) == '/') {
          remark = true;
        } else if (c != 10 && c != 32) {
          return i;
        }
      }
      return textEnd;
    }

    private void scanToken(int i, int from) {
      place[i] = from;
      number[i] = 0;
      int c = octetAt(from);
      if (from >= textEnd) {
        kind[i] = END;
        length[i] = 0;
      } else if (isLetter(c)) {
        scanName(i, from);
      } else if (isDigit(c)) {
        scanNumber(i, from);
      } else {
        scanSign(i, c, octetAt(from + 1));
      }
    }

    private void scanName(int i, int from) {
      int size = 1;
      for (int k = 1; k < NAME_LONGEST; k++) {
        int c = octetAt(from + k);
        if (!isLetter(c) && !isDigit(c)) {
          break;
        }
        size = k + 1;
      }
      length[i] = size;
      kind[i] = wordOrName(from, size);
    }

    private int wordOrName(int from, int size) {
      int found = MDP;
      int start = 0;
      for (int i = 0; i < WORDS.length(); i++) {
        if (WORDS.charAt(i) == ' ') {
          if (i - start == size && isWord(from, start, size)) {
            return found;
          }
          found++;
          start = i + 1;
        }
      }
      return NAME;
    }

    private boolean isWord(int from, int start, int size) {
      for (int i = 0; i < size && start + i < WORDS.length(); i++) {
        if (octetAt(from + i) != WORDS.charAt(start + i)) {
          return false;
        }
      }
      return true;
    }

    private void scanNumber(int i, int from) {
      int whole = digitsFrom(from);
      int fraction = 0;
      if (whole <= REAL_LONGEST && octetAt(from + whole) == '.') {
        fraction = digitsFrom(from + whole + 1);
      }
      int size = fraction > 0 ? whole + 1 + fraction : whole;
      length[i] = size;
      if (whole > INT_LONGEST || fraction > REAL_LONGEST || isLetter(octetAt(from + size))) {
        kind[i] = BAD;
      } else if (fraction > 0) {
        kind[i] = REAL;
        int thousandths = decimal(from + whole + 1, fraction);
        for (int k = fraction; k < REAL_LONGEST; k++) {
          thousandths *= 10;
        }
        number[i] = decimal(from, whole) * 1000 + thousandths;
      } else {
        kind[i] = INT;
        number[i] = decimal(from, whole);
      }
    }

    private int digitsFrom(int from) {
      int many = 0;
      for (int i = from; i < textEnd && isDigit(octetAt(i)); i++) {
        many++;
      }
      return many;
    }

    private int decimal(int from, int size) {
      int sum = 0;
      for (int i = 0; i < size; i++) {
        sum = sum * 10 + octetAt(from + i) - '0';
      }
      return sum;
    }

    private void scanSign(int i, int c, int next) {
      for (int k = 0; k + 1 < PAIRS.length(); k += 2) {
        if (c == PAIRS.charAt(k) && next == PAIRS.charAt(k + 1)) {
          kind[i] = ARROW + k / 2;
          length[i] = 2;
          return;
        }
      }
      int single = SINGLES.indexOf((char) c);
      kind[i] = single < 0 ? BAD : EQUAL + single;
      length[i] = 1;
    }

    /** Whether two NAMES are the same. */
    private boolean same(int i, int j) {
      if (i < 0 || j < 0 || i >= made || j >= made || length[i] != length[j]) {
        return false;
      }
      for (int k = 0; k < length[i]; k++) {
        int x = place[i] + k;
        int y = place[j] + k;
        if (x >= textEnd || y >= textEnd || octet[x] != octet[y]) {
          return false;
        }
      }
      return true;
    }

    private static boolean isLetter(int c) {
      return c >= 'a' && c <= 'z' || c >= 'A' && c <= 'Z' || c == '_';
    }

    private static boolean isDigit(int c) {
      return c >= '0' && c <= '9';
    }
  }

  /**
   * The code of all expressions, and a stack that it runs on. There is no tree: a chain of a
   * thousand sums would need a recursion of that depth.
   */
  private static final class Machine {
    private final int[] op = new int[CODE_MOST];
    private final int[] with = new int[CODE_MOST];
    private final int[] stack = new int[PENDING_MOST];
    private int used;
    private boolean broken;

    private int emit(int code, int operand) {
      if (used >= op.length) {
        return -1;
      }
      op[used] = code;
      with[used] = operand;
      used++;
      return used - 1;
    }

    /** Lets the jump at that place lead to what comes next. */
    private void aim(int jump) {
      if (jump >= 0 && jump < used) {
        with[jump] = used;
      }
    }

    /** The VALUE of the expression in the STATE that stands in rows from base on; see broken. */
    private int run(int from, int[] rows, int base) {
      broken = false;
      // Two cells below the first value, so that an operator always finds two.
      int top = 1;
      int next = from;
      for (int i = 0; i < CODE_MOST && !broken; i++) {
        if (next < 0 || next >= used || top < 1 || top + 1 >= stack.length) {
          break;
        }
        int code = op[next];
        int operand = with[next];
        next++;
        switch (code) {
          case STOP:
            return stack[top];
          case INT:
            top++;
            stack[top] = operand;
            break;
          case NAME:
            top++;
            int at = base + operand;
            stack[top] = at >= 0 && at < rows.length ? rows[at] : 0;
            break;
          case NOT:
            stack[top] = 1 - stack[top];
            break;
          case NEGATE:
            stack[top] = join(MINUS, 0, stack[top]);
            break;
          case COLON:
            next = operand;
            break;
          case AND: case OR: case IMPLY: case ASK:
            boolean jumps = (stack[top] != 0) == (code == OR);
            if (jumps) {
              next = operand;
            }
            if (code == IMPLY && jumps) {
              stack[top] = 1;
            } else if (code == ASK || !jumps) {
              top--;
            }
            break;
          default:
            top--;
            stack[top] = join(code, stack[top], stack[top + 1]);
        }
      }
      broken = true;
      return 0;
    }

    private int join(int code, int a, int b) {
      long made;
      switch (code) {
        case PLUS: made = (long) a + b; break;
        case MINUS: made = (long) a - b; break;
        case TIMES: made = (long) a * b; break;
        case MIN: made = Math.min(a, b); break;
        case MAX: made = Math.max(a, b); break;
        case MOD: made = b > 0 ? Math.floorMod(a, b) : Long.MAX_VALUE; break;
        case EQUAL: made = a == b ? 1 : 0; break;
        case UNEQUAL: made = a != b ? 1 : 0; break;
        case LESS: made = a < b ? 1 : 0; break;
        case AT_MOST: made = a <= b ? 1 : 0; break;
        case MORE: made = a > b ? 1 : 0; break;
        default: made = a >= b ? 1 : 0;
      }
      if (made != (int) made) {
        broken = true;
      }
      return (int) made;
    }
  }

  /** What THE TEXT said. Of what comes in rows, first.. tells where the part of one begins. */
  private static final class Model {
    private boolean ready;
    private int modules;
    private int actions;
    private int target;
    private int variables;
    private final int[] type = new int[VARIABLES_MOST];
    private final int[] low = new int[VARIABLES_MOST];
    private final int[] high = new int[VARIABLES_MOST];
    private final int[] begin = new int[VARIABLES_MOST];
    private int commands;
    private final int[] guard = new int[COMMANDS_MOST];
    private final int[] home = new int[COMMANDS_MOST];
    private final int[] action = new int[COMMANDS_MOST];
    private final long[] below = new long[COMMANDS_MOST];
    private final int[] firstUpdate = new int[COMMANDS_MOST + 1];
    private int updates;
    private final long[] top = new long[COMMANDS_MOST * UPDATES_MOST];
    private final int[] firstStep = new int[COMMANDS_MOST * UPDATES_MOST + 1];
    private int steps;
    private final int[] stepVariable = new int[STEPS_MOST];
    private final int[] stepCode = new int[STEPS_MOST];

    private void clear() {
      modules = 0;
      actions = 0;
      variables = 0;
      commands = 0;
      updates = 0;
      steps = 0;
    }

    private int updatesOf(int command) {
      return firstUpdate[command + 1] - firstUpdate[command];
    }
  }

  /**
   * Reads TOKENS into a model. One TOKEN is looked at ahead; what it is (BAD) comes before what is
   * asked of those that were taken (TYPES, P, sums, BROKEN ones), so these are asked behind take().
   * Expressions wait on a stack of operators and are no recursion: 40 nested levels of nine kinds
   * would be too many open calls.
   */
  private static final class Reader {
    private final Tokens tokens;
    private final Machine machine;
    private final Model model;
    private final int[] nameToken = new int[NAMES_MOST];
    private final int[] nameRole = new int[NAMES_MOST];
    private final int[] nameHolds = new int[NAMES_MOST];
    private final int[] actionToken = new int[COMMANDS_MOST];
    private final int[] waitKind = new int[PENDING_MOST];
    private final int[] waitRank = new int[PENDING_MOST];
    private final int[] waitPlace = new int[PENDING_MOST];
    private final int[] waitType = new int[PENDING_MOST];
    private final int[] waitJump = new int[PENDING_MOST];
    private int waiting;
    private int nested;
    private int type;
    private boolean wantsOperand;
    private boolean variablesKnown;
    private int names;
    private int ownFrom;
    private int at;
    private int wrongAt = -1;

    private Reader(Tokens tokens, Machine machine, Model model) {
      this.tokens = tokens;
      this.machine = machine;
      this.model = model;
    }

    private void startOn(int n) {
      wrongAt = -1;
      model.clear();
      machine.used = 0;
      names = 0;
      int foreign = tokens.foreignOctet(n);
      if (foreign >= 0) {
        fail(foreign);
      }
      tokens.scan(n);
      at = -1;
      advance();
      take(MDP);
    }

    private void readConstant() {
      take(CONST);
      take(INT_WORD);
      int name = takeNewName();
      take(EQUAL);
      int code = readExpression(INT_TYPE, false);
      int where = place();
      take(SEMICOLON);
      remember(name, CONSTANT_ROLE, constant(code, where));
    }

    private void openModule() {
      if (model.modules >= MODULES_MOST) {
        fail(place());
      }
      take(MODULE);
      remember(takeNewName(), MODULE_ROLE, model.modules);
      model.modules++;
      ownFrom = model.variables;
    }

    /** Answers whether another one comes. */
    private boolean closeModule() {
      take(ENDMODULE);
      return kind() == MODULE;
    }

    private void readTarget() {
      take(TARGET);
      model.target = readExpression(BOOL_TYPE, true);
      take(SEMICOLON);
      if (kind() != END) {
        fail(place());
      }
    }

    private void readVariable() {
      int v = model.variables;
      if (v >= VARIABLES_MOST) {
        fail(place());
      }
      int name = takeNewName();
      take(COLON);
      if (kind() == BOOL_WORD) {
        advance();
        model.type[v] = BOOL_TYPE;
        model.low[v] = 0;
        model.high[v] = 1;
      } else {
        readBounds(v);
      }
      boolean given = kind() == INIT;
      int code = machine.used;
      if (given) {
        advance();
        code = readExpression(model.type[v], false);
      }
      int where = place();
      take(SEMICOLON);
      model.begin[v] = given ? constant(code, where) : model.low[v];
      if (model.begin[v] < model.low[v] || model.begin[v] > model.high[v]) {
        fail(where);
      }
      model.variables = v + 1;
      remember(name, VARIABLE_ROLE, v);
    }

    private void readBounds(int v) {
      take(OPEN_SQUARE);
      int low = readExpression(INT_TYPE, false);
      take(DOTS);
      int high = readExpression(INT_TYPE, false);
      int where = place();
      take(SHUT_SQUARE);
      model.type[v] = INT_TYPE;
      // The later code first: each one is dropped when it has been run.
      model.high[v] = constant(high, where);
      model.low[v] = constant(low, where);
      long values = (long) model.high[v] - model.low[v] + 1;
      if (values < 1 || values > VALUES_MOST) {
        fail(where);
      }
    }

    /** Runs code that names no variable, and drops it. */
    private int constant(int code, int where) {
      int made = machine.run(code, model.low, 0);
      if (machine.broken) {
        fail(where);
      }
      machine.used = code;
      return made;
    }

    private void readCommand() {
      int c = model.commands;
      if (c >= COMMANDS_MOST) {
        fail(place());
      }
      take(OPEN_SQUARE);
      model.home[c] = model.modules - 1;
      model.action[c] = -1;
      if (kind() == NAME) {
        model.action[c] = actionOf(at);
        advance();
      }
      take(SHUT_SQUARE);
      model.guard[c] = readExpression(BOOL_TYPE, true);
      take(ARROW);
      model.below[c] = 1;
      model.firstUpdate[c] = model.updates;
      boolean shared = kind() != TRUE && kind() != OPEN;
      boolean more = true;
      for (int i = 0; i <= UPDATES_MOST && more; i++) {
        int share = WHOLE_SHARE;
        if (shared) {
          share = readShare();
          take(COLON);
        }
        readUpdate(c);
        addShare(c, share / SHARE_BASE, share % SHARE_BASE);
        more = shared && kind() == PLUS;
        if (more) {
          advance();
        }
      }
      int where = place();
      take(SEMICOLON);
      long sum = 0;
      for (int u = model.firstUpdate[c]; u < model.updates; u++) {
        sum += model.top[u];
      }
      if (sum != model.below[c]) {
        fail(where);
      }
      model.firstUpdate[c + 1] = model.updates;
      model.commands = c + 1;
    }

    private int actionOf(int token) {
      for (int a = 0; a < model.actions; a++) {
        if (tokens.same(actionToken[a], token)) {
          return a;
        }
      }
      if (model.actions < actionToken.length) {
        actionToken[model.actions] = token;
        model.actions++;
      }
      return model.actions - 1;
    }

    /** Reads a P: its numerator times SHARE_BASE, and its denominator. */
    private int readShare() {
      boolean real = kind() == REAL;
      int last = place();
      int top = number();
      int below = real ? 1000 : 1;
      boolean small = real || top <= SHARE_MOST;
      if (real) {
        advance();
      } else {
        take(INT);
      }
      if (!real && kind() == OVER) {
        advance();
        last = place();
        below = number();
        take(INT);
        small = small && below <= SHARE_MOST;
      }
      if (!small || top < 1 || top > below) {
        fail(last);
      }
      return top * SHARE_BASE + below;
    }

    /** Brings the shares of the COMMAND to a common denominator; that of six is at most 10^18. */
    private void addShare(int c, long top, long below) {
      long common = commonDivisor(top, below);
      long grow = below / common / commonDivisor(model.below[c], below / common);
      int last = model.updates - 1;
      for (int u = model.firstUpdate[c]; u < last; u++) {
        model.top[u] *= grow;
      }
      model.below[c] *= grow;
      model.top[last] = model.below[c] / (below / common) * (top / common);
    }

    private void readUpdate(int c) {
      int u = model.updates;
      if (u - model.firstUpdate[c] >= UPDATES_MOST) {
        fail(place());
      }
      model.firstStep[u] = model.steps;
      boolean more = kind() != TRUE;
      if (!more) {
        advance();
      }
      for (int i = 0; i < TOKENS_MOST && more; i++) {
        take(OPEN);
        int v = changedVariable(model.firstStep[u]);
        advance();
        take(PRIME);
        take(EQUAL);
        model.stepVariable[model.steps] = v;
        model.stepCode[model.steps] = readExpression(model.type[v], true);
        model.steps++;
        take(SHUT);
        more = kind() == AND;
        if (more) {
          advance();
        }
      }
      model.updates = u + 1;
      model.firstStep[u + 1] = model.steps;
    }

    /** The variable that is named here: one of this MODULE, not yet in this UPDATE. */
    private int changedVariable(int from) {
      int name = kind() == NAME ? find(at) : -1;
      int v = name >= 0 && nameRole[name] == VARIABLE_ROLE ? nameHolds[name] : -1;
      if (v < ownFrom || model.steps >= STEPS_MOST) {
        fail(place());
      }
      for (int i = from; i < model.steps; i++) {
        if (model.stepVariable[i] == v) {
          fail(place());
        }
      }
      return v;
    }

    /** Answers where its code begins; the TOKEN behind it is then looked at. */
    private int readExpression(int wantedType, boolean withVariables) {
      int from = machine.used;
      waiting = 0;
      nested = 0;
      wantsOperand = true;
      variablesKnown = withVariables;
      boolean more = true;
      for (int i = 0; i <= TOKENS_MOST && more; i++) {
        if (wantsOperand) {
          readOperand();
        } else {
          more = readOperator();
        }
        if (more) {
          advance();
        }
      }
      if (type != wantedType) {
        fail(place());
      }
      machine.emit(STOP, 0);
      return from;
    }

    private void readOperand() {
      int kind = kind();
      switch (kind) {
        case INT:
          operand(INT, number(), INT_TYPE);
          break;
        case TRUE: case FALSE:
          operand(INT, kind == TRUE ? 1 : 0, BOOL_TYPE);
          break;
        case NAME:
          int name = find(at);
          if (name < 0 || nameRole[name] == MODULE_ROLE
              || nameRole[name] == VARIABLE_ROLE && !variablesKnown) {
            fail(place());
          }
          int holds = nameHolds[name];
          boolean constant = nameRole[name] == CONSTANT_ROLE;
          operand(constant ? INT : NAME, holds, constant ? INT_TYPE : model.type[holds]);
          break;
        case NOT:
          if (waiting > 0 && waitRank[waiting - 1] > NOT_RANK) {
            fail(place());
          }
          nest();
          push(NOT, NOT_RANK, BOOL_TYPE, -1);
          break;
        case MINUS:
          nest();
          push(NEGATE, TIGHTEST_RANK, INT_TYPE, -1);
          break;
        case OPEN:
          nest();
          push(OPEN, BRACKET_RANK, NO_TYPE, -1);
          break;
        case MIN: case MAX: case MOD:
          nest();
          push(kind, BRACKET_RANK, NO_TYPE, -1);
          advance();
          if (kind() != OPEN) {
            fail(place());
          }
          break;
        default:
          fail(place());
      }
    }

    private void operand(int code, int holds, int itsType) {
      machine.emit(code, holds);
      type = itsType;
      wantsOperand = false;
    }

    /** One more of ( ? => ! - min max mod in another. */
    private void nest() {
      if (nested >= NESTED_MOST) {
        fail(place());
      }
      nested++;
    }

    private void push(int kind, int rank, int itsType, int jump) {
      if (waiting >= PENDING_MOST) {
        fail(place());
      }
      waitKind[waiting] = kind;
      waitRank[waiting] = rank;
      waitPlace[waiting] = place();
      waitType[waiting] = itsType;
      waitJump[waiting] = jump;
      waiting++;
    }

    /** Answers whether the TOKEN that is looked at belongs to the expression. */
    private boolean readOperator() {
      int kind = kind();
      int rank = rankOf(kind);
      boolean leansRight = rank <= IMPLY_RANK || rank == RELATION_RANK;
      settle(leansRight ? rank + 1 : rank);
      if (rank == RELATION_RANK && waiting > 0 && waitRank[waiting - 1] == RELATION_RANK) {
        // A second one in a row is no operator here: it ends all that waits, and can not stand.
        settle(ASK_RANK);
        rank = BRACKET_RANK;
      }
      if (rank == BRACKET_RANK) {
        return readBracket(kind);
      }
      if (rank <= IMPLY_RANK) {
        nest();
      }
      boolean jumps = kind == AND || kind == OR || kind == IMPLY || kind == ASK;
      int jump = jumps ? machine.emit(kind, 0) : -1;
      push(kind, kind == ASK ? BRACKET_RANK : rank, type, jump);
      wantsOperand = true;
      return true;
    }

    private static int rankOf(int kind) {
      switch (kind) {
        case ASK: return ASK_RANK;
        case IMPLY: return IMPLY_RANK;
        case OR: return OR_RANK;
        case AND: return AND_RANK;
        case EQUAL: case UNEQUAL: case LESS: case AT_MOST: case MORE: case AT_LEAST:
          return RELATION_RANK;
        case PLUS: case MINUS: return SUM_RANK;
        case TIMES: return PRODUCT_RANK;
        default: return BRACKET_RANK;
      }
    }

    /** Ends all that waits and binds at least that tightly: its TYPES are looked at now. */
    private void settle(int rank) {
      for (int i = 0; i < PENDING_MOST && waiting > 0 && waitRank[waiting - 1] >= rank; i++) {
        int last = waiting - 1;
        int kind = waitKind[last];
        if (!typesFit(kind, waitRank[last], waitType[last])) {
          fail(waitPlace[last]);
        }
        if (waitJump[last] >= 0) {
          machine.aim(waitJump[last]);
        } else {
          machine.emit(kind, 0);
        }
        if (waitRank[last] != ASK_RANK) {
          type = waitRank[last] >= SUM_RANK ? INT_TYPE : BOOL_TYPE;
        }
        if (waitRank[last] <= IMPLY_RANK || waitRank[last] == NOT_RANK
            || waitRank[last] == TIGHTEST_RANK) {
          nested--;
        }
        waiting = last;
      }
    }

    private boolean typesFit(int kind, int rank, int before) {
      if (rank == ASK_RANK || kind == EQUAL || kind == UNEQUAL) {
        return before == type;
      }
      int due = rank >= RELATION_RANK ? INT_TYPE : BOOL_TYPE;
      return before == due && type == due;
    }

    /** Behind all operators: what the innermost bracket makes of the TOKEN. */
    private boolean readBracket(int kind) {
      if (waiting == 0) {
        return false;
      }
      int last = waiting - 1;
      int open = waitKind[last];
      boolean function = open == MIN || open == MAX || open == MOD;
      if (open == ASK && kind == COLON) {
        int jump = machine.emit(COLON, 0);
        machine.aim(waitJump[last]);
        waitJump[last] = jump;
        waitRank[last] = ASK_RANK;
        waitType[last] = waitType[last] == BOOL_TYPE ? type : NO_TYPE;
        wantsOperand = true;
      } else if (open == OPEN && kind == SHUT) {
        nested--;
        waiting = last;
      } else if (function && waitType[last] == NO_TYPE && kind == COMMA) {
        waitType[last] = type;
        wantsOperand = true;
      } else if (function && waitType[last] != NO_TYPE && kind == SHUT) {
        // Its TYPES are looked at when it is settled, behind the TOKEN that comes next.
        waitRank[last] = TIGHTEST_RANK;
      } else {
        fail(place());
      }
      return true;
    }

    private int kind() {
      return at >= 0 && at < tokens.made ? tokens.kind[at] : END;
    }

    private int place() {
      return at >= 0 && at < tokens.made ? tokens.place[at] : tokens.textEnd;
    }

    private int number() {
      return at >= 0 && at < tokens.made ? tokens.number[at] : 0;
    }

    private void advance() {
      if (at + 1 < tokens.made) {
        at++;
      }
      if (kind() == BAD) {
        fail(place());
      }
    }

    private void take(int kind) {
      if (kind() != kind) {
        fail(place());
      }
      advance();
    }

    /** Takes the NAME that is given to something here, and answers which TOKEN it is. */
    private int takeNewName() {
      int token = at;
      if (kind() != NAME || find(token) >= 0) {
        fail(place());
      }
      advance();
      return token;
    }

    private int find(int token) {
      for (int i = 0; i < names; i++) {
        if (tokens.same(nameToken[i], token)) {
          return i;
        }
      }
      return -1;
    }

    private void remember(int token, int role, int holds) {
      if (names < nameToken.length) {
        nameToken[names] = token;
        nameRole[names] = role;
        nameHolds[names] = holds;
        names++;
      }
    }

    private void fail(int where) {
      wrongAt = where;
      throw new IllegalArgumentException();
    }
  }

  /** The STATES of a model, their CHOICES and OUTCOMES. */
  private static final class Space {
    private final Machine machine;
    private final Model model;
    private final int[] rows = new int[STATES_MOST * VARIABLES_MOST];
    private final int[] next = new int[VARIABLES_MOST];
    private final boolean[] target = new boolean[STATES_MOST];
    private final int[] firstChoice = new int[STATES_MOST + 1];
    private final int[] firstOutcome = new int[CHOICES_MOST + 1];
    private final long[] below = new long[CHOICES_MOST];
    private final int[] reached = new int[CHOICES_MOST * OUTCOMES_MOST];
    private final long[] top = new long[CHOICES_MOST * OUTCOMES_MOST];
    private final boolean[] enabled = new boolean[COMMANDS_MOST];
    // The COMMANDS that can be taken for an ACTION, MODULE by MODULE, and those that are taken.
    private final int[] offer = new int[COMMANDS_MOST];
    private final int[] firstOffer = new int[MODULES_MOST + 1];
    private final int[] taken = new int[MODULES_MOST];
    private int parties;
    private int states;
    private int choices;
    private int outcomes;
    private boolean ready;

    private Space(Machine machine, Model model) {
      this.machine = machine;
      this.model = model;
    }

    private boolean hasState(int s) {
      return s >= 0 && s < states;
    }

    private int choicesOf(int s) {
      return firstChoice[s + 1] - firstChoice[s];
    }

    private int outcomesOf(int s, int c) {
      int choice = firstChoice[s] + c;
      return firstOutcome[choice + 1] - firstOutcome[choice];
    }

    private int variableOf(int s, int k) {
      return rows[s * VARIABLES_MOST + k];
    }

    private int targets() {
      int many = 0;
      for (int s = 0; s < states; s++) {
        many += target[s] ? 1 : 0;
      }
      return many;
    }

    private void build() {
      ready = false;
      choices = 0;
      outcomes = 0;
      System.arraycopy(model.begin, 0, rows, 0, VARIABLES_MOST);
      states = 1;
      for (int s = 0; s < states && s < STATES_MOST; s++) {
        lookAt(s);
        firstChoice[s] = choices;
        addSingleChoices(s);
        addJointChoices(s);
        if (choices == firstChoice[s]) {
          parties = 0;
          addChoice(s);
        }
        firstChoice[s + 1] = choices;
      }
      ready = true;
    }

    private void lookAt(int s) {
      for (int c = 0; c < model.commands; c++) {
        enabled[c] = reckon(model.guard[c], s) != 0;
      }
      target[s] = reckon(model.target, s) != 0;
    }

    private int reckon(int code, int s) {
      int made = machine.run(code, rows, s * VARIABLES_MOST);
      if (machine.broken) {
        throw new ArithmeticException();
      }
      return made;
    }

    private void addSingleChoices(int s) {
      for (int c = 0; c < model.commands; c++) {
        if (enabled[c] && model.action[c] < 0) {
          parties = 1;
          taken[0] = c;
          addChoice(s);
        }
      }
    }

    private void addJointChoices(int s) {
      for (int a = 0; a < model.actions; a++) {
        int ways = gatherOffers(a) ? 1 : 0;
        for (int p = 0; p < parties; p++) {
          ways *= firstOffer[p + 1] - firstOffer[p];
        }
        for (int way = 0; way < ways; way++) {
          take(way);
          addChoice(s);
        }
      }
    }

    /** Answers whether each MODULE that has COMMANDS of the ACTION can take one. */
    private boolean gatherOffers(int action) {
      int offers = 0;
      parties = 0;
      for (int m = 0; m < model.modules; m++) {
        boolean has = false;
        firstOffer[parties] = offers;
        for (int c = 0; c < model.commands; c++) {
          if (model.home[c] == m && model.action[c] == action) {
            has = true;
            if (enabled[c]) {
              offer[offers] = c;
              offers++;
            }
          }
        }
        if (has && offers == firstOffer[parties]) {
          return false;
        }
        if (has) {
          parties++;
        }
      }
      firstOffer[parties] = offers;
      return true;
    }

    /** Takes one COMMAND of each party, those of the first one slowest. */
    private void take(int way) {
      int rest = way;
      for (int p = parties - 1; p >= 0; p--) {
        int many = Math.max(1, firstOffer[p + 1] - firstOffer[p]);
        taken[p] = offer[firstOffer[p] + rest % many];
        rest /= many;
      }
    }

    /** Adds the CHOICE of the COMMANDS that are taken; none of them: the one that stays. */
    private void addChoice(int s) {
      int ways = 1;
      long whole = 1;
      for (int p = 0; p < parties; p++) {
        ways *= model.updatesOf(taken[p]);
        whole *= model.below[taken[p]];
      }
      if (choices >= CHOICES_MOST || ways > OUTCOMES_MOST) {
        throw new UnsupportedOperationException();
      }
      firstOutcome[choices] = outcomes;
      for (int way = 0; way < ways; way++) {
        addOutcome(s, way);
      }
      long common = whole;
      for (int o = firstOutcome[choices]; o < outcomes; o++) {
        common = commonDivisor(common, top[o]);
      }
      for (int o = firstOutcome[choices]; o < outcomes; o++) {
        top[o] /= common;
      }
      below[choices] = whole / common;
      choices++;
      firstOutcome[choices] = outcomes;
    }

    private void addOutcome(int s, int way) {
      System.arraycopy(rows, s * VARIABLES_MOST, next, 0, VARIABLES_MOST);
      long share = 1;
      int rest = way;
      for (int p = parties - 1; p >= 0; p--) {
        int many = Math.max(1, model.updatesOf(taken[p]));
        int update = model.firstUpdate[taken[p]] + rest % many;
        rest /= many;
        share *= model.top[update];
        for (int i = model.firstStep[update]; i < model.firstStep[update + 1]; i++) {
          int v = model.stepVariable[i];
          next[v] = machine.run(model.stepCode[i], rows, s * VARIABLES_MOST);
          if (machine.broken || next[v] < model.low[v] || next[v] > model.high[v]) {
            throw new ArithmeticException();
          }
        }
      }
      int t = stateOfNext();
      for (int o = firstOutcome[choices]; o < outcomes; o++) {
        if (reached[o] == t) {
          top[o] += share;
          return;
        }
      }
      reached[outcomes] = t;
      top[outcomes] = share;
      outcomes++;
    }

    /** The number of the STATE that stands in next; it is a new one if it has none. */
    private int stateOfNext() {
      for (int t = 0; t < states; t++) {
        boolean same = true;
        for (int v = 0; v < model.variables && same; v++) {
          same = rows[t * VARIABLES_MOST + v] == next[v];
        }
        if (same) {
          return t;
        }
      }
      if (states >= STATES_MOST) {
        throw new UnsupportedOperationException();
      }
      System.arraycopy(next, 0, rows, states * VARIABLES_MOST, VARIABLES_MOST);
      states++;
      return states - 1;
    }
  }

  /**
   * A natural number in limbs of 31 bits, the lowest first, without leading zeros: a product of
   * two limbs with its carries fits in a long. What would not find room in it is left out; rooms
   * are made so that this never happens.
   */
  private static final class Nat {
    private final int[] limb;
    private int size;

    private Nat(int room) {
      limb = new int[Math.max(room, 1)];
    }

    private void put(long number) {
      long rest = number;
      size = 0;
      for (int i = 0; i < limb.length && rest > 0; i++) {
        limb[i] = (int) (rest & LIMB);
        rest >>>= LIMB_BITS;
        size = i + 1;
      }
    }

    private void copy(Nat x) {
      size = Math.min(x.size, limb.length);
      System.arraycopy(x.limb, 0, limb, 0, size);
    }

    private int digit(int i) {
      return i >= 0 && i < size && i < limb.length ? limb[i] : 0;
    }

    /** The number, if it has at most two limbs. */
    private long small() {
      return ((long) digit(1) << LIMB_BITS) + digit(0);
    }

    private int bitLength() {
      return size == 0 ? 0 : size * LIMB_BITS + 1 - Integer.numberOfLeadingZeros(digit(size - 1));
    }

    /** The 62 bits from the highest of limb n - 1 on that is left when spare ones are passed over. */
    private long head(int n, int spare) {
      return ((long) digit(n - 1) << LIMB_BITS + spare)
          + ((long) digit(n - 2) << spare)
          + (digit(n - 3) >>> LIMB_BITS - spare);
    }

    private int against(Nat x) {
      if (size != x.size) {
        return size < x.size ? -1 : 1;
      }
      for (int i = size - 1; i >= 0; i--) {
        if (digit(i) != x.digit(i)) {
          return digit(i) < x.digit(i) ? -1 : 1;
        }
      }
      return 0;
    }

    private void trim() {
      while (size > 0 && limb[size - 1] == 0) {
        size--;
      }
    }

    /** Makes it at least n limbs with leading zeros. */
    private boolean stretch(int n) {
      if (n > limb.length) {
        return false;
      }
      for (; size < n; size++) {
        limb[size] = 0;
      }
      return true;
    }

    private void toProduct(Nat x, Nat y) {
      size = 0;
      addProduct(x, y);
    }

    private void addProduct(Nat x, Nat y) {
      if (x.size == 0 || y.size == 0 || !stretch(Math.max(size, x.size + y.size) + 1)) {
        return;
      }
      for (int i = 0; i < x.size; i++) {
        long factor = x.limb[i];
        long carry = 0;
        for (int j = 0; j < y.size; j++) {
          long sum = factor * y.limb[j] + limb[i + j] + carry;
          limb[i + j] = (int) (sum & LIMB);
          carry = sum >>> LIMB_BITS;
        }
        for (int k = i + y.size; k < size && carry != 0; k++) {
          long sum = limb[k] + carry;
          limb[k] = (int) (sum & LIMB);
          carry = sum >>> LIMB_BITS;
        }
      }
      trim();
    }

    /** Takes x, which is not greater, away. */
    private void subtract(Nat x) {
      long carry = 0;
      for (int i = 0; i < size; i++) {
        long sum = (long) limb[i] - x.digit(i) + carry;
        limb[i] = (int) (sum & LIMB);
        carry = sum >> LIMB_BITS;
      }
      trim();
    }

    private void shiftUp(int by) {
      long carry = 0;
      for (int i = 0; i < size; i++) {
        long sum = ((long) limb[i] << by) + carry;
        limb[i] = (int) (sum & LIMB);
        carry = sum >>> LIMB_BITS;
      }
      if (carry != 0 && size < limb.length) {
        limb[size] = (int) carry;
        size++;
      }
    }

    private void shiftDown(int by) {
      long above = 0;
      for (int i = size - 1; i >= 0; i--) {
        long sum = (above << LIMB_BITS) + limb[i];
        limb[i] = (int) (sum >>> by & LIMB);
        above = sum & (1L << by) - 1;
      }
      trim();
    }

    /** Becomes a / b; the rest is left in a. Without b, it becomes 0. */
    private void toQuotient(Nat a, Nat b) {
      size = 0;
      if (b.size == 0 || a.against(b) < 0) {
        return;
      }
      // A divisor whose highest bit is set makes each guess of a digit two too high at most.
      int spare = Integer.numberOfLeadingZeros(b.digit(b.size - 1)) - 1;
      a.shiftUp(spare);
      b.shiftUp(spare);
      if (stretch(a.size - b.size + 1)) {
        for (int j = a.size - b.size; j >= 0; j--) {
          limb[j] = a.takeOff(b, j);
        }
        trim();
      }
      a.shiftDown(spare);
      b.shiftDown(spare);
    }

    /** Takes b, moved up by j limbs, away as often as it can be: how often. */
    private int takeOff(Nat b, int j) {
      int n = b.size;
      long first = b.digit(n - 1);
      if (first == 0) {
        return 0;
      }
      long head = ((long) digit(j + n) << LIMB_BITS) + digit(j + n - 1);
      long guess = head / first;
      long rest = head % first;
      for (int i = 0; i < 3 && rest <= LIMB && (guess > LIMB
          || guess * b.digit(n - 2) > (rest << LIMB_BITS) + digit(j + n - 2)); i++) {
        guess--;
        rest += first;
      }
      if (guess > 0 && addMultiple(b, -guess, j) < 0) {
        addMultiple(b, 1, j);
        guess--;
      }
      return (int) guess;
    }

    /** Adds b, moved up by j limbs, so often: what the limb above b becomes, before it is cut. */
    private long addMultiple(Nat b, long times, int j) {
      long carry = 0;
      int i = 0;
      for (; i < b.size && i + j < size; i++) {
        long sum = times * b.limb[i] + limb[i + j] + carry;
        limb[i + j] = (int) (sum & LIMB);
        carry = sum >> LIMB_BITS;
      }
      if (i + j < size) {
        carry += limb[i + j];
        limb[i + j] = (int) (carry & LIMB);
      }
      return carry;
    }
  }

  /** A rational number without a common divisor. */
  private static final class Ratio {
    private final Nat top = new Nat(WALK_LIMBS);
    private final Nat below = new Nat(WALK_LIMBS);
    private final Nat first = new Nat(WALK_LIMBS);
    private final Nat second = new Nat(WALK_LIMBS);
    private final Nat quotient = new Nat(WALK_LIMBS);

    private Ratio() {
      below.put(1);
    }

    /** Becomes a / b. */
    private void hold(Nat a, Nat b) {
      first.copy(a);
      second.copy(b);
      Nat common = spendForDivisor();
      Nat other = common == first ? second : first;
      other.copy(a);
      top.toQuotient(other, common);
      other.copy(b);
      below.toQuotient(other, common);
    }

    /** The greatest common divisor of first and second, in one of both; the other one is spent. */
    private Nat spendForDivisor() {
      Nat x = first;
      Nat y = second;
      for (int i = 0; i < ROUNDS_MOST && y.size > 0; i++) {
        if (x.against(y) < 0) {
          Nat less = x;
          x = y;
          y = less;
        } else if (x.size <= 2) {
          x.put(commonDivisor(x.small(), y.small()));
          y.put(0);
        } else if (!leap(x, y)) {
          quotient.toQuotient(x, y);
        }
      }
      return x;
    }

    /**
     * Lehmer's way of making many steps of Euclid's at once: as long as the leading 62 bits of
     * x >= y tell the quotients surely. Answers whether there was such a step.
     */
    private static boolean leap(Nat x, Nat y) {
      int n = x.size;
      int spare = Integer.numberOfLeadingZeros(x.digit(n - 1)) - 1;
      long u = x.head(n, spare);
      long v = y.head(n, spare);
      long a = 1;
      long b = 0;
      long c = 0;
      long d = 1;
      for (int i = 0; i < 100 && v + c > 0 && v + d > 0; i++) {
        long q = (u + a) / (v + c);
        if (q > LIMB || q != (u + b) / (v + d)) {
          break;
        }
        long e = a - q * c;
        long f = b - q * d;
        if (Math.abs(e) > LIMB || Math.abs(f) > LIMB) {
          break;
        }
        a = c;
        b = d;
        c = e;
        d = f;
        long rest = u - q * v;
        u = v;
        v = rest;
      }
      if (b == 0) {
        return false;
      }
      mix(x, y, a, b, c, d);
      return true;
    }

    /** x and y become a x + b y and c x + d y, neither of which is below 0 or greater than x. */
    private static void mix(Nat x, Nat y, long a, long b, long c, long d) {
      if (!y.stretch(x.size)) {
        return;
      }
      long carryX = 0;
      long carryY = 0;
      for (int i = 0; i < x.size && i < y.size; i++) {
        long digitX = x.limb[i];
        long digitY = y.limb[i];
        carryX += a * digitX + b * digitY;
        carryY += c * digitX + d * digitY;
        x.limb[i] = (int) (carryX & LIMB);
        y.limb[i] = (int) (carryY & LIMB);
        carryX >>= LIMB_BITS;
        carryY >>= LIMB_BITS;
      }
      x.trim();
      y.trim();
    }
  }

  /**
   * Linear equations of a Markov chain: own[i] x[i] = SUM of cell[i][j] x[j] + known[i], all of
   * them natural numbers. They are solved by Bareiss's elimination, in which all that is divided
   * comes out even and numbers stay determinants. Off the diagonal all signs are alike, so only
   * the diagonal ever has something taken away.
   */
  private static final class Equations {
    private static final int WIDTH = STATES_MOST + 1;
    private final Nat[] cells = new Nat[STATES_MOST * WIDTH];
    private final Nat[] solution = new Nat[STATES_MOST];
    // A row that a pivot has no part in is not multiplied by it; this is how far it has come.
    private final int[] level = new int[STATES_MOST];
    private final Nat one = new Nat(VALUE_LIMBS);
    private final Nat nowhere = new Nat(VALUE_LIMBS);
    private final Nat wide = new Nat(WIDE_LIMBS);
    private final Nat away = new Nat(WIDE_LIMBS);
    private int many;

    private Equations() {
      one.put(1);
      for (int i = 0; i < cells.length; i++) {
        cells[i] = new Nat(VALUE_LIMBS);
      }
      for (int i = 0; i < solution.length; i++) {
        solution[i] = new Nat(VALUE_LIMBS);
      }
    }

    /** The one for x[j] in row i; for i = j what is left of it on the other side; j = many: known. */
    private Nat cell(int i, int j) {
      int at = i * WIDTH + j;
      return at >= 0 && at < cells.length ? cells[at] : nowhere;
    }

    private void begin(int rows) {
      many = Math.max(0, Math.min(rows, STATES_MOST));
      for (int i = 0; i < many; i++) {
        level[i] = 0;
        for (int j = 0; j <= many; j++) {
          cell(i, j).put(0);
        }
      }
    }

    /** The denominator of the solution. */
    private Nat determinant() {
      return pivotBefore(many);
    }

    private Nat pivotBefore(int row) {
      return row == 0 ? one : cell(row - 1, row - 1);
    }

    private void eliminate() {
      for (int k = 0; k < many; k++) {
        raise(k);
        for (int i = k + 1; i < many; i++) {
          if (cell(i, k).size > 0) {
            sweep(i, k);
          }
        }
      }
      for (int k = many - 1; k >= 0; k--) {
        wide.toProduct(determinant(), cell(k, many));
        for (int j = k + 1; j < many; j++) {
          wide.addProduct(cell(k, j), solution[j]);
        }
        solution[k].toQuotient(wide, cell(k, k));
      }
    }

    /** Multiplies row k by all the pivots that it was not multiplied by yet. */
    private void raise(int k) {
      for (int j = k; j <= many && level[k] < k; j++) {
        Nat x = cell(k, j);
        if (x.size > 0) {
          wide.toProduct(x, pivotBefore(k));
          x.toQuotient(wide, pivotBefore(level[k]));
        }
      }
      level[k] = k;
    }

    /** Puts what row k says of x[k] into row i. */
    private void sweep(int i, int k) {
      Nat pivot = cell(k, k);
      Nat share = cell(i, k);
      for (int j = k + 1; j <= many; j++) {
        Nat x = cell(i, j);
        Nat y = cell(k, j);
        if (x.size > 0 || y.size > 0) {
          wide.toProduct(pivot, x);
          if (i == j) {
            away.toProduct(share, y);
            wide.subtract(away);
          } else {
            wide.addProduct(share, y);
          }
          x.toQuotient(wide, pivotBefore(level[i]));
        }
      }
      level[i] = k + 1;
    }
  }

  /** The POLICY and the VALUES for the GREATEST or the LEAST; all VALUES have one denominator. */
  private static final class Answer {
    private final boolean least;
    private final int[] policy = new int[STATES_MOST];
    // Neither in the TARGET nor surely 0.
    private final boolean[] open = new boolean[STATES_MOST];
    private final Nat[] top = new Nat[STATES_MOST];
    private final Nat below = new Nat(VALUE_LIMBS);
    private int policies;
    private boolean found;
    // check() finds it too, but only solve() lets it be told.
    private boolean told;

    private Answer(boolean least) {
      this.least = least;
      for (int s = 0; s < top.length; s++) {
        top[s] = new Nat(VALUE_LIMBS);
      }
    }

    private void clear() {
      found = false;
      told = false;
    }
  }

  /** Finds best POLICIES by making them better, from those that the document begins with. */
  private static final class Planner {
    private final Space space;
    private final Equations equations = new Equations();
    private final int[] row = new int[STATES_MOST];
    private final Nat factor = new Nat(VALUE_LIMBS);
    private final Nat sum = new Nat(WIDE_LIMBS);
    private final Nat best = new Nat(WIDE_LIMBS);
    private final Nat left = new Nat(WIDE_LIMBS);
    private final Nat right = new Nat(WIDE_LIMBS);

    private Planner(Space space) {
      this.space = space;
    }

    private void find(Answer answer) {
      if (answer.found) {
        return;
      }
      if (answer.least) {
        beginLeast(answer);
      } else {
        beginGreatest(answer);
      }
      boolean changed = true;
      for (int i = 1; i < ROUNDS_MOST && changed; i++) {
        writeEquations(answer);
        equations.eliminate();
        readSolution(answer);
        answer.policies = i;
        changed = improve(answer);
      }
      answer.found = true;
    }

    /** Round by round, from the TARGET backwards; who is not come to is surely 0. */
    private void beginGreatest(Answer answer) {
      for (int s = 0; s < space.states; s++) {
        answer.policy[s] = 0;
        answer.open[s] = false;
      }
      boolean more = true;
      for (int round = 0; round <= STATES_MOST && more; round++) {
        more = false;
        for (int s = 0; s < space.states; s++) {
          int c = answer.open[s] || space.target[s] ? -1 : nearingChoice(answer, s);
          // Not yet open in this round: those that come behind it would see it.
          row[s] = c;
          more |= c >= 0;
        }
        for (int s = 0; s < space.states; s++) {
          if (row[s] >= 0) {
            answer.policy[s] = row[s];
            answer.open[s] = true;
          }
        }
      }
    }

    /** The least CHOICE with an OUTCOME in the TARGET or among those that are open, or -1. */
    private int nearingChoice(Answer answer, int s) {
      for (int c = 0; c < space.choicesOf(s); c++) {
        int choice = space.firstChoice[s] + c;
        for (int o = space.firstOutcome[choice]; o < space.firstOutcome[choice + 1]; o++) {
          int t = space.reached[o];
          if (space.target[t] || answer.open[t]) {
            return c;
          }
        }
      }
      return -1;
    }

    /** Who can not stay away from the TARGET for ever is open; the others stay away. */
    private void beginLeast(Answer answer) {
      for (int s = 0; s < space.states; s++) {
        answer.open[s] = false;
      }
      boolean more = true;
      for (int round = 0; round <= STATES_MOST && more; round++) {
        more = false;
        for (int s = 0; s < space.states; s++) {
          if (!space.target[s] && !answer.open[s] && avoidingChoice(answer, s) < 0) {
            answer.open[s] = true;
            more = true;
          }
        }
      }
      for (int s = 0; s < space.states; s++) {
        boolean avoids = !space.target[s] && !answer.open[s];
        answer.policy[s] = avoids ? Math.max(0, avoidingChoice(answer, s)) : 0;
      }
    }

    /** The least CHOICE without an OUTCOME in the TARGET or among those that are open, or -1. */
    private int avoidingChoice(Answer answer, int s) {
      for (int c = 0; c < space.choicesOf(s); c++) {
        int choice = space.firstChoice[s] + c;
        boolean avoids = true;
        for (int o = space.firstOutcome[choice]; o < space.firstOutcome[choice + 1]; o++) {
          int t = space.reached[o];
          avoids &= !space.target[t] && !answer.open[t];
        }
        if (avoids) {
          return c;
        }
      }
      return -1;
    }

    private void writeEquations(Answer answer) {
      int many = 0;
      for (int s = 0; s < space.states; s++) {
        row[s] = many;
        many += answer.open[s] ? 1 : 0;
      }
      equations.begin(many);
      for (int s = 0; s < space.states; s++) {
        if (answer.open[s]) {
          writeEquation(answer, s, many);
        }
      }
    }

    private void writeEquation(Answer answer, int s, int many) {
      int choice = space.firstChoice[s] + answer.policy[s];
      long own = space.below[choice];
      long known = 0;
      for (int o = space.firstOutcome[choice]; o < space.firstOutcome[choice + 1]; o++) {
        int t = space.reached[o];
        if (t == s) {
          own -= space.top[o];
        } else if (space.target[t]) {
          known += space.top[o];
        } else if (answer.open[t]) {
          equations.cell(row[s], row[t]).put(space.top[o]);
        }
      }
      equations.cell(row[s], row[s]).put(own);
      equations.cell(row[s], many).put(known);
    }

    private void readSolution(Answer answer) {
      answer.below.copy(equations.determinant());
      for (int s = 0; s < space.states; s++) {
        if (answer.open[s]) {
          answer.top[s].copy(equations.solution[row[s]]);
        } else if (space.target[s]) {
          answer.top[s].copy(answer.below);
        } else {
          answer.top[s].put(0);
        }
      }
    }

    private boolean improve(Answer answer) {
      boolean changed = false;
      for (int s = 0; s < space.states; s++) {
        if (answer.open[s]) {
          int c = bestChoice(answer, s);
          long below = space.below[space.firstChoice[s] + c];
          if (isBetter(answer, best, below, answer.top[s], 1)) {
            answer.policy[s] = c;
            changed = true;
          }
        }
      }
      return changed;
    }

    /** The first of the CHOICES that no other one is better than; its SUM is left in best. */
    private int bestChoice(Answer answer, int s) {
      int found = 0;
      for (int c = 0; c < space.choicesOf(s); c++) {
        int choice = space.firstChoice[s] + c;
        sum.put(0);
        for (int o = space.firstOutcome[choice]; o < space.firstOutcome[choice + 1]; o++) {
          factor.put(space.top[o]);
          sum.addProduct(answer.top[space.reached[o]], factor);
        }
        long below = space.below[choice];
        if (c == 0 || isBetter(answer, sum, below, best, space.below[space.firstChoice[s] + found])) {
          best.copy(sum);
          found = c;
        }
      }
      return found;
    }

    /** Whether a / belowA is greater (for the LEAST: less) than b / belowB. */
    private boolean isBetter(Answer answer, Nat a, long belowA, Nat b, long belowB) {
      factor.put(belowB);
      left.toProduct(a, factor);
      factor.put(belowA);
      right.toProduct(b, factor);
      int order = left.against(right);
      return answer.least ? order < 0 : order > 0;
    }
  }

  /** Follows a POLICY for some steps: how probable it is to have arrived. */
  private static final class Walk {
    private final Space space;
    private final Nat[] mass = new Nat[STATES_MOST];
    private final Nat[] moved = new Nat[STATES_MOST];
    private final Nat below = new Nat(WALK_LIMBS);
    private final Nat arrived = new Nat(WALK_LIMBS);
    private final Nat portion = new Nat(WALK_LIMBS);
    private final Nat common = new Nat(VALUE_LIMBS);
    private final Nat rest = new Nat(VALUE_LIMBS);
    private final Nat factor = new Nat(VALUE_LIMBS);
    private final Nat quotient = new Nat(VALUE_LIMBS);

    private Walk(Space space) {
      this.space = space;
      for (int s = 0; s < STATES_MOST; s++) {
        mass[s] = new Nat(WALK_LIMBS);
        moved[s] = new Nat(WALK_LIMBS);
      }
    }

    /** Leaves the probability as arrived / below. */
    private void go(Answer answer, int from, int steps) {
      for (int s = 0; s < space.states; s++) {
        mass[s].put(s == from ? 1 : 0);
      }
      below.put(1);
      for (int i = 0; i < steps; i++) {
        step(answer);
      }
      arrived.put(0);
      factor.put(1);
      for (int s = 0; s < space.states; s++) {
        if (space.target[s]) {
          arrived.addProduct(mass[s], factor);
        }
      }
    }

    private void step(Answer answer) {
      findCommon(answer);
      for (int s = 0; s < space.states; s++) {
        moved[s].put(0);
      }
      for (int s = 0; s < space.states; s++) {
        if (space.target[s]) {
          moved[s].addProduct(mass[s], common);
        } else if (answer.open[s] && mass[s].size > 0) {
          spread(s, space.firstChoice[s] + answer.policy[s]);
        }
      }
      for (int s = 0; s < space.states; s++) {
        mass[s].copy(moved[s]);
      }
      portion.toProduct(below, common);
      below.copy(portion);
    }

    /** The least common multiple of the denominators of all CHOICES that this step takes. */
    private void findCommon(Answer answer) {
      common.put(1);
      for (int s = 0; s < space.states; s++) {
        if (answer.open[s] && mass[s].size > 0) {
          long own = space.below[space.firstChoice[s] + answer.policy[s]];
          factor.put(own);
          rest.copy(common);
          quotient.toQuotient(rest, factor);
          factor.put(own / commonDivisor(own, rest.small()));
          rest.copy(common);
          common.toProduct(rest, factor);
        }
      }
    }

    private void spread(int s, int choice) {
      factor.put(space.below[choice]);
      rest.copy(common);
      quotient.toQuotient(rest, factor);
      portion.toProduct(mass[s], quotient);
      for (int o = space.firstOutcome[choice]; o < space.firstOutcome[choice + 1]; o++) {
        factor.put(space.top[o]);
        moved[space.reached[o]].addProduct(portion, factor);
      }
    }
  }
}
