/** Makes each call on MarkovDesk and on the reference, and tells where their answers part. */
final class Both {
  interface Call {
    Object on();
  }

  final MarkovDesk desk = new MarkovDesk();
  final ReferenceDesk reference = new ReferenceDesk();
  private final String run;
  int calls;
  int wrong;

  Both(String run) {
    this.run = run;
  }

  private static Object answer(Call call) {
    try {
      return call.on();
    } catch (RuntimeException e) {
      return "throws." + e.getClass().getSimpleName();
    }
  }

  Object compare(String name, Call on, Call due) {
    Object got = answer(on);
    Object want = answer(due);
    calls++;
    if (!want.equals(got)) {
      wrong++;
      System.out.println(run + ": call " + calls + " " + name + " answered " + got + ", due is " + want);
    }
    return got;
  }

  void feed(String text) {
    byte[] octets = text.getBytes(java.nio.charset.StandardCharsets.ISO_8859_1);
    for (int i = 0; i < octets.length; i += 20) {
      int[] w = new int[5];
      for (int k = 0; k < 20; k++) {
        w[k / 4] = w[k / 4] << 8 | (i + k < octets.length ? octets[i + k] & 255 : 0);
      }
      compare("feed", () -> desk.feed(w[0], w[1], w[2], w[3], w[4]), () -> reference.feed(w[0], w[1], w[2], w[3], w[4]));
    }
  }

  Object end(int n) {
    Object got = compare("end(" + n + ")", () -> desk.end(n), () -> reference.end(n));
    compare("wrong()", desk::wrong, reference::wrong);
    return got;
  }

  Object text(String text) {
    feed(text);
    int before = wrong;
    Object got = end(text.length());
    if (wrong > before) {
      System.out.println(text);
    }
    return got;
  }

  Object explore() {
    return compare("explore()", desk::explore, reference::explore);
  }

  Object state(int s, int what, int k) {
    return compare("state(" + s + ", " + what + ", " + k + ")", () -> desk.state(s, what, k), () -> reference.state(s, what, k));
  }

  Object outcome(int s, int c, int o) {
    Object got = compare("outcome(" + s + ", " + c + ", " + o + ")", () -> desk.outcome(s, c, o), () -> reference.outcome(s, c, o));
    result();
    return got;
  }

  Object solve(boolean least) {
    return compare("solve(" + least + ")", () -> desk.solve(least), () -> reference.solve(least));
  }

  Object value(boolean least, int s) {
    Object got = compare("value(" + least + ", " + s + ")", () -> desk.value(least, s), () -> reference.value(least, s));
    result();
    return got;
  }

  Object within(boolean least, int s, int n) {
    Object got = compare("within(" + least + ", " + s + ", " + n + ")", () -> desk.within(least, s, n), () -> reference.within(least, s, n));
    result();
    return got;
  }

  Object claim(int s, long a, long b) {
    return compare("claim(" + s + ", " + a + ", " + b + ")", () -> {
      desk.claim(s, a, b);
      return "";
    }, () -> {
      reference.claim(s, a, b);
      return "";
    });
  }

  Object claimResult(int s) {
    return compare("claimResult(" + s + ")", () -> {
      desk.claimResult(s);
      return "";
    }, () -> {
      reference.claimResult(s);
      return "";
    });
  }

  Object check(boolean least) {
    return compare("check(" + least + ")", () -> desk.check(least), () -> reference.check(least));
  }

  void counts() {
    for (int w = -1; w <= 8; w++) {
      int what = w;
      compare("count(" + what + ")", () -> desk.count(what), () -> reference.count(what));
    }
  }

  void result() {
    for (boolean below : new boolean[] {false, true}) {
      compare("bits(" + below + ")", () -> desk.bits(below), () -> reference.bits(below));
      int limbs = reference.bits(below) / 31 + 2;
      for (int i = -1; i < limbs; i++) {
        int k = i;
        compare("part(" + below + ", " + k + ")", () -> desk.part(below, k), () -> reference.part(below, k));
      }
    }
  }

  /** All that can be asked of an explored model. */
  void everything() {
    counts();
    int states = desk.count(4);
    for (int s = -1; s <= states; s++) {
      for (int what = -1; what <= 6; what++) {
        state(s, what, 0);
        state(s, what, -1);
        state(s, what, 1);
      }
    }
    check(false);
    check(true);
    for (int s = 0; s < states; s++) {
      for (int k = 0; k <= desk.count(0); k++) {
        state(s, 4, k);
      }
      int choices = desk.state(s, 0, 0);
      for (int c = -1; c <= choices; c++) {
        state(s, 5, c);
        int outcomes = c >= 0 && c < choices ? desk.state(s, 5, c) : 0;
        for (int o = -1; o <= outcomes; o++) {
          outcome(s, c, o);
        }
      }
    }
    for (boolean least : new boolean[] {false, true}) {
      value(least, 0);
      within(least, 0, 1);
      solve(least);
      solve(least);
      for (int s = -1; s <= states; s++) {
        state(s, least ? 3 : 2, 0);
        value(least, s);
        claimResult(s);
      }
      check(least);
      check(!least);
      for (int s = 0; s < states; s++) {
        within(least, s, (s * 5 + states) % 13);
      }
      claimResult(states - 1);
      check(least);
    }
  }
}
