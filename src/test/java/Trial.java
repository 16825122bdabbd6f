import java.nio.charset.StandardCharsets;

/** What the tests of single promises share: a desk, texts fed to it, and answers held against those that are due. */
final class Trial {
  interface Call {
    Object on();
  }

  static int wrong;
  private static String sentence = "";

  final MarkovDesk desk = new MarkovDesk();

  /** The sentence of the document that is tested from here on. */
  static void says(String words) {
    sentence = words;
  }

  static void due(String what, Object got, Object want) {
    if (!want.equals(got)) {
      wrong++;
      System.out.println(what + " answered " + got + ", due is " + want + (sentence.isEmpty() ? "" : " (" + sentence + ")"));
    }
  }

  static void dueThrow(String what, String want, Call call) {
    Object got;
    try {
      got = call.on();
    } catch (RuntimeException e) {
      got = e.getClass().getSimpleName();
    }
    due(what, got, want);
  }

  static void finish() {
    System.exit(wrong > 0 ? 1 : 0);
  }

  void feed(String text) {
    byte[] octets = text.getBytes(StandardCharsets.ISO_8859_1);
    for (int i = 0; i < octets.length; i += 20) {
      int[] w = new int[5];
      for (int k = 0; k < 20; k++) {
        w[k / 4] = w[k / 4] << 8 | (i + k < octets.length ? octets[i + k] & 255 : 0);
      }
      desk.feed(w[0], w[1], w[2], w[3], w[4]);
    }
  }

  /** Feeds and ends a text: how many tokens, or -1 if it is WRONG. */
  int text(String text) {
    feed(text);
    try {
      return desk.end(text.length());
    } catch (IllegalArgumentException e) {
      return -1;
    }
  }

  /** A desk with the text read and explored. */
  static Trial explored(String text, int states) {
    Trial trial = new Trial();
    due("tokens of " + text, trial.text(text) > 0, true);
    due("explore of " + text, trial.desk.explore(), states);
    return trial;
  }

  void dueResult(String what, long top, long below) {
    due(what + " above", number(false), top);
    due(what + " below", number(true), below);
  }

  long number(boolean below) {
    return desk.part(below, 0) + ((long) desk.part(below, 1) << 31);
  }

  /** A text in which @ stands where it is WRONG. */
  static void wrongAt(String marked) {
    wrongAt(marked.replace("@", ""), marked.indexOf('@'));
  }

  /** A text that is WRONG at that octet. */
  static void wrongAt(String text, int at) {
    Trial trial = new Trial();
    due("end of " + text, trial.text(text), -1);
    due("wrong of " + text, trial.desk.wrong(), at);
    due("models after " + text, trial.desk.count(1), 0);
    dueThrow("explore after " + text, "IllegalStateException", trial.desk::explore);
  }

  /** A text that is not WRONG. */
  static Trial right(String text, int tokens) {
    Trial trial = new Trial();
    due("end of " + text, trial.text(text), tokens);
    due("wrong of " + text, trial.desk.wrong(), -1);
    return trial;
  }
}
