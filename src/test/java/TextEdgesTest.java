/** Term 1, sentence by sentence: the last case that is still taken and the first that is WRONG. */
public final class TextEdgesTest {
  private static final String TAIL = " endmodule target true;";
  private static final String LEAST = "mdp module a" + TAIL;
  private static final int LEAST_TOKENS = 8;
  /** 2,147,483,647 and -2,147,483,648 in 6 digits. */
  private static final String TOP = "(65536*32767+65535)";
  private static final String BOTTOM = "(-65536*32768)";

  private static String times(String s, int n) {
    return s.repeat(n);
  }

  /** A guard of a model with an int x, a bool b and a constant k. */
  private static String guard(String e) {
    return "mdp const int k = 3; module a x : [0..9]; b : bool; [] " + e + " -> true;" + TAIL;
  }

  private static void rightGuard(String e) {
    Trial.due("guard " + e, new Trial().text(guard(e)) > 0, true);
  }

  private static void wrongGuard(String e) {
    Trial.wrongAt(guard(e));
  }

  private static void octets() {
    Trial.says("octets 10 and 32..126 (another one: WRONG at it, before anything else)");
    for (int c = 0; c < 256; c++) {
      boolean fine = c == 10 || c >= 32 && c <= 126;
      String remark = "mdp //" + (char) c + "\nmodule a" + TAIL;
      if (fine) {
        Trial.right(remark, LEAST_TOKENS);
        Trial.wrongAt("$ //" + (char) c, 0);
      } else {
        Trial.wrongAt(remark, 6);
        Trial.wrongAt("$ //" + (char) c, 4);
        Trial.wrongAt("$ //" + (char) c + (char) (c ^ 128) + (char) c, 4);
        Trial.wrongAt(LEAST + (char) c, LEAST.length());
      }
    }
    for (int i = 0; i < 20; i++) {
      Trial.wrongAt(times(" ", i) + "\u0080" + times(" ", 19 - i), i);
      Trial.wrongAt(times(" ", i) + "m" + times(" ", 19 - i), i);
    }
    Trial behind = new Trial();
    behind.feed(LEAST + "\u0001");
    Trial.due("a foreign octet behind THE TEXT", behind.desk.end(LEAST.length()), LEAST_TOKENS);
    Trial.says("THE TEXT is the first n octets: a TOKEN ends with it, whatever was fed behind");
    String[][] cuts = {{"mdp", "x"}, {"mdp mod", "ule"}, {"mdp const int k=123456", "7"}, {"mdp const int k=1", "a"}, {"mdp module a []true->0.123", "4"}, {LEAST + "/", "/"}, {LEAST, "$"}, {LEAST + "//", "\n$"}};
    int[] due = {3, 4, 22, 17, 26, LEAST.length(), -1, -1};
    for (int i = 0; i < cuts.length; i++) {
      Trial cut = new Trial();
      cut.feed(cuts[i][0] + cuts[i][1]);
      int n = cuts[i][0].length();
      Trial.dueThrow("end of " + cuts[i][0], due[i] < 0 ? "read" : "IllegalArgumentException", () -> cut.desk.end(n) > 0 ? "read" : "not read");
      Trial.due("wrong of " + cuts[i][0], cut.desk.wrong(), due[i]);
    }
  }

  private static void length() {
    Trial.says("at most 8,192 octets");
    String blanks = times(" ", 8192 - LEAST.length());
    Trial.right(blanks + LEAST, LEAST_TOKENS);
    Trial.right(LEAST + blanks, LEAST_TOKENS);
    Trial.right("//" + times("x", 8189 - LEAST.length()) + "\n" + LEAST, LEAST_TOKENS);
    Trial.wrongAt(blanks + LEAST.substring(0, LEAST.length() - 1) + "@,");
    Trial.wrongAt(LEAST.substring(0, LEAST.length() - 1) + blanks + " @");
    Trial full = new Trial();
    full.feed(blanks + LEAST + "        ");
    Trial.dueThrow("end(8193)", "IndexOutOfBoundsException", () -> full.desk.end(8193));
    Trial.due("end(8192) behind it", full.desk.end(8192), LEAST_TOKENS);
  }

  private static void parting() {
    Trial.says("10 and 32, and what is from // to the end of the LINE, part TOKENS");
    for (String blank : new String[] {" ", "\n", "//\n", "//x\n", "// // \n", "///\n", " //module b\n", "//\n//\n", "  \n \n"}) {
      Trial.right("mdp" + blank + "module" + blank + "a" + blank + "endmodule" + blank + "target" + blank + "true" + blank + ";" + blank, LEAST_TOKENS);
      Trial.wrongAt("mdp mod" + blank + "ule a" + TAIL, 4);
    }
    Trial.right(LEAST + "//", LEAST_TOKENS);
    Trial.right(LEAST + "// x", LEAST_TOKENS);
    Trial.wrongAt(LEAST + "@/");
    Trial.wrongAt(LEAST + "@/ /");
    Trial.wrongAt(LEAST + "@/\n/");
    Trial.wrongAt("mdp // module a" + TAIL + "@");
    Trial.wrongAt("@mdpmodule a" + TAIL);
    Trial.wrongAt("mdp module a [] true - @> true;" + TAIL);
    Trial.wrongAt("mdp module a x:[0@. .1];" + TAIL);
    Trial.wrongAt("mdp module a [] 1 = @> 2 -> true;" + TAIL);
    Trial.wrongAt("mdp module a [] 1 @! = 2 -> true;" + TAIL);
    Trial.wrongAt("mdp const int k = 1 @2;");
    Trial.wrongAt("mdp module a [] true -> 1 / @/ 2 : true;" + TAIL);
  }

  private static void nameLength() {
    Trial.says("a NAME: a-z A-Z _, then these and 0-9, up to 20 of them (what is behind the 20th is the next TOKEN)");
    for (String name : new String[] {"a", "z", "A", "Z", "_", "a0", "z9", "_Aa0_9zZ", times("x", 19), times("x", 20), "_" + times("9", 19)}) {
      Trial.right("mdp module " + name + TAIL, LEAST_TOKENS);
    }
    Trial.wrongAt("mdp module " + times("x", 20) + "x @endmodule target true;");
    Trial.wrongAt("mdp module " + times("x", 20) + "_ @endmodule target true;");
    Trial.wrongAt("mdp module " + times("x", 20) + "@9" + TAIL);
    Trial.wrongAt("mdp module " + times("x", 20) + times("y", 20) + "@y" + TAIL);
    Trial.right("mdp module " + times("x", 20) + "endmodule target true;", LEAST_TOKENS);
    // 20 octets, and then a NAME of one octet, which is a VARIABLE's
    Trial two = Trial.right("mdp module " + times("x", 20) + "x:bool; endmodule target x;", 12);
    Trial.due("variables", two.desk.count(0), 1);
    // two NAMES of 20 octets that differ in the last one, in the first one, in what a letter's size is
    String nineteen = times("x", 19);
    Trial.right("mdp const int " + nineteen + "y=1; const int " + nineteen + "z=2; module a endmodule target " + nineteen + "y!=" + nineteen + "z;", 22);
    Trial.right("mdp const int y" + nineteen + "=1; const int z" + nineteen + "=2; module a" + TAIL, 20);
    Trial.right("mdp const int x=1; const int X=2; const int xx=3; const int x_=4; module a" + TAIL, 32);
    Trial.wrongAt("mdp const int " + nineteen + "y=1; const int @" + nineteen + "y=2; module a" + TAIL);
  }

  private static void words() {
    Trial.says("WORDS are none: mdp const int bool module endmodule init target true false min max mod");
    for (String word : "mdp const int bool module endmodule init target true false min max mod".split(" ")) {
      Trial.wrongAt("mdp module @" + word + TAIL);
      Trial.wrongAt("mdp const int @" + word + "=1; module a" + TAIL);
      String upper = word.substring(0, 1).toUpperCase() + word.substring(1);
      for (String name : new String[] {word + "_", word + "1", "_" + word, word + word, upper, word.substring(0, word.length() - 1)}) {
        Trial.right("mdp module " + name + TAIL, LEAST_TOKENS);
      }
    }
  }

  private static void numbers() {
    Trial.says("an INT: digits, up to 6; a REAL: 1 to 3 digits, a \".\", 1 to 3 digits");
    for (String fine : new String[] {"0", "9", "00", "000000", "999999", "000001"}) {
      Trial.right("mdp const int k=" + fine + "; module a" + TAIL, 14);
    }
    for (String one : new String[] {"1.0", "1.00", "1.000", "01.0", "001.000", "1", "01", "000001"}) {
      Trial.right("mdp module a []true->" + one + ":true;" + TAIL, 16);
    }
    Trial.right("mdp module a []true->000.001:true+0.9:true+0.09:true+00.009:true;" + TAIL, 28);
    Trial.wrongAt("mdp module a []true->0001@.0:true;" + TAIL);
    Trial.wrongAt("mdp module a []true->0@.:true;" + TAIL);
    Trial.wrongAt("mdp module a []true->@.5:true;" + TAIL);
    Trial.wrongAt("mdp module a []true->0.5@.5:true;" + TAIL);
    Trial.wrongAt("mdp module a []true->0 @.5:true;" + TAIL);
    Trial.wrongAt("mdp module a []true->0@. 5:true;" + TAIL);
    Trial.says("a digit with a letter, _ or digit too many behind it is WRONG at the first of the digits");
    for (String bad : new String[] {"0000000", "1000000", "12345678901234567890", "1a", "1z", "1A", "1Z", "1_", "123456a", "999999_", "0x1", "1true",
        "0.1234", "1.0000", "0.5a", "0.555_", "0.5555555", "000.0000", "1.0Z"}) {
      Trial.wrongAt("mdp const int k=@" + bad + "; module a" + TAIL);
      Trial.wrongAt("mdp module a []true->@" + bad + ":true;" + TAIL);
    }
    Trial.right("mdp module a x:[0..1];[]x=0->(x'=1);" + TAIL, 29);
  }

  private static void signs() {
    Trial.says("TOKENS, which are as long as can be; SIGNS: -> .. => != <= >= = < > + - * / ! & | ? : ; , ' ( ) [ ]");
    rightGuard("x<-1");
    rightGuard("x=-1|x!=-1|x<=-1|x>=-1|x>-1");
    rightGuard("b=>!b");
    rightGuard("b&!!b");
    rightGuard("x--1=--x");
    rightGuard("(x=1)=(b?true:b)");
    wrongGuard("x@=>b");
    wrongGuard("b=>@=b");
    wrongGuard("x<=@>1");
    wrongGuard("x>=@>1");
    wrongGuard("x=@=1");
    wrongGuard("x<@<1");
    wrongGuard("x>@<1");
    wrongGuard("x=@<1");
    wrongGuard("x!=@=1");
    wrongGuard("@!=b");
    wrongGuard("b&@&b");
    wrongGuard("b|@|b");
    wrongGuard("x*@*x=1");
    wrongGuard("x@/x=1");
    wrongGuard("@+x=1");
    Trial.wrongAt("mdp module a []true-@->true;" + TAIL);
    Trial.wrongAt("mdp module a x:[0..@.1];" + TAIL);
    Trial.wrongAt("mdp module a x:[0..@..1];" + TAIL);
    Trial.wrongAt("mdp module a x:@:bool;" + TAIL);
    Trial.says("what no TOKEN begins with is WRONG when it is come to");
    for (char c : "\"#$%@\\^`{}~.".toCharArray()) {
      Trial.wrongAt("mdp " + c + "module a" + TAIL, 4);
      Trial.wrongAt("mdp module a" + c + TAIL, 12);
      Trial.wrongAt("mdp mdp " + c, 4);
      Trial.right("mdp//" + c + "\nmodule a" + TAIL, LEAST_TOKENS);
    }
  }

  private static void badBeforeOthers() {
    Trial.says("what no TOKEN begins with is WRONG .. before what is said below of TYPES, P, sums and BROKEN ones is looked at for what stands before it");
    for (String e : new String[] {"x+b", "b-x", "x*b", "-b", "x<b", "x=b", "b!=x", "!x", "b&x", "x|b", "b=>x", "x?b:b", "b?x:b", "min(b,x)", "max(x,b)", "mod(b,b)", "x", "(x)"}) {
      for (String bad : new String[] {"$", ".", "1234567", "0.1234", "1a"}) {
        Trial.wrongAt("mdp module a x:[0..9]; b:bool; [] " + e + " @" + bad + " -> true;" + TAIL);
      }
    }
    for (String p : new String[] {"0", "2", "1000", "0.000", "1.001", "1/0", "2/1", "0/1", "1/1000", "1000/1000"}) {
      Trial.wrongAt("mdp module a [] true -> " + p + " @$ : true;" + TAIL);
    }
    Trial.wrongAt("mdp module a [] true -> 1/2 : true; @$" + TAIL);
    Trial.wrongAt("mdp const int k = mod(1,0); @$");
    Trial.wrongAt("mdp const int k = true @$;");
    Trial.wrongAt("mdp module a x:[1..0] @$;" + TAIL);
    Trial.wrongAt("mdp module a x:[mod(1,0)..0] @$;" + TAIL);
    Trial.wrongAt("mdp module a x:[0..1000] @$;" + TAIL);
    Trial.wrongAt("mdp module a x:[0..1] init 2; @$" + TAIL);
    Trial.wrongAt("mdp module a x:[0..1] init mod(1,0); @$" + TAIL);
    Trial.wrongAt("mdp module a endmodule target 1 @$;");
    Trial.says("WRONG is the first TOKEN that can not stand where it is");
    Trial.wrongAt("mdp @mdp $ 1234567 module");
    Trial.wrongAt("mdp const int k = @f $;");
    Trial.wrongAt("mdp const int k = 1; const int @k $ = 1;");
    Trial.wrongAt("mdp module a [] true -> (@y $'=1);" + TAIL);
    Trial.wrongAt("mdp const int k = mod(1,0)@; const $");
    Trial.wrongAt("mdp module a x:[1..0@]; $" + TAIL);
    Trial.wrongAt("mdp module a x:[0..1] init 2@; [ $" + TAIL);
    Trial.wrongAt("mdp module a [] true -> 1/2 : true@; [ $" + TAIL);
    Trial.wrongAt("mdp module a [] true -> @2 : $ true;" + TAIL);
    wrongGuard("(x @+ b) $");
    wrongGuard("x @+ b + $");
    wrongGuard("x @= b & $");
    Trial.wrongAt("mdp module a [] 1 @-> $ true;" + TAIL);
  }

  private static void endPlace() {
    Trial.says("END stands behind the last one (its place: how many octets)");
    for (String start : new String[] {"", " ", "\n\n", "//", "mdp", "mdp ", "mdp //x", "mdp module a endmodule target true", "mdp module a endmodule target true //;\n  "}) {
      Trial.wrongAt(start + "@");
    }
  }

  private static void howManyTokens() {
    Trial.says("At most 1,500 TOKENS with END (the next one is WRONG)");
    String head = "mdp const int k=1";
    Trial.right(head + times("+1", 743) + "; module a" + TAIL, 1500);
    Trial.right(head + times("-1", 742) + "; module a endmodule target !true;", 1499);
    Trial.wrongAt(head + times("+1", 743) + "; module a endmodule target !true;@");
    Trial.wrongAt(head + times("+1", 743) + "; module a endmodule target !true;  //x\n@");
    Trial.wrongAt(head + times("+1", 743) + "; module a endmodule target !!true@;");
    Trial.wrongAt(head + times("+1", 747) + "@+1;");
    Trial.wrongAt(head + times("+1", 747) + "@$");
    Trial.wrongAt(head + times("+1", 746) + "+ @;");
    Trial.wrongAt(head + times("+1", 746) + " @$");
  }

  private static void modules() {
    Trial.says("MODEL: .. MODULE {MODULE}; MODULE (at most 3)");
    Trial.wrongAt("mdp @target true;");
    for (int n = 1; n <= 3; n++) {
      StringBuilder b = new StringBuilder("mdp ");
      for (int i = 0; i < n; i++) {
        b.append("module m").append(i).append(" endmodule ");
      }
      Trial trial = Trial.right(b + "target true;", 5 + 3 * n);
      Trial.due("modules", trial.desk.count(1), n);
      Trial.due("explore", trial.desk.explore(), 1);
      if (n == 3) {
        Trial.wrongAt(b + "@module m3 endmodule target true;");
        Trial.wrongAt(b + "@module m0 endmodule target true;");
        Trial.wrongAt(b + "@module $");
      }
    }
  }

  private static void variables() {
    Trial.says("VARIABLE (at most 8 in all)");
    String eight = "v0:bool; v1:bool; v2:bool; v3:bool; v4:bool; v5:bool; v6:bool; v7:[5..6] init 6;";
    Trial trial = Trial.right("mdp module a " + eight + " [] v7=6 -> (v7'=5);" + TAIL, 3 + 28 + 10 + 13 + 5);
    Trial.due("variables", trial.desk.count(0), 8);
    Trial.due("explore", trial.desk.explore(), 2);
    Trial.due("the eighth", trial.desk.state(0, 4, 7), 6);
    Trial.due("the eighth", trial.desk.state(1, 4, 7), 5);
    Trial.wrongAt("mdp module a " + eight + " @v8:bool;" + TAIL);
    Trial.wrongAt("mdp module a " + eight + " @v0:bool;" + TAIL);
    Trial.wrongAt("mdp module a " + eight + " endmodule module b @w:bool;" + TAIL);
    Trial.wrongAt("mdp module a " + eight.substring(9) + " endmodule module b w:bool; @u:bool;" + TAIL);
    Trial.due("eight in two", new Trial().text("mdp module a " + eight.substring(9) + " endmodule module b w:bool;" + TAIL) > 0, true);
  }

  private static void commands() {
    Trial.says("COMMAND (at most 40 in all)");
    String command = "[] true -> true;";
    Trial one = Trial.right("mdp module a " + times(command, 40) + TAIL, 3 + 240 + 5);
    Trial.due("commands", one.desk.count(2), 40);
    one.desk.explore();
    Trial.due("choices", one.desk.state(0, 0, 0), 40);
    Trial.wrongAt("mdp module a " + times(command, 40) + "@[" + TAIL);
    Trial.wrongAt("mdp module a " + times(command, 20) + "endmodule module b " + times(command, 20) + "@" + command + TAIL);
    Trial.wrongAt("mdp module a " + times(command, 40) + "endmodule module b @" + command + TAIL);
    StringBuilder actions = new StringBuilder("mdp module a ");
    for (int i = 0; i < 40; i++) {
      actions.append("[n").append(i).append("] true -> true;");
    }
    Trial named = Trial.right(actions + TAIL, 3 + 280 + 5);
    Trial.due("actions", named.desk.count(3), 40);
    named.desk.explore();
    Trial.due("choices", named.desk.state(0, 0, 0), 40);
    Trial.wrongAt(actions + "@[n0] true -> true;" + TAIL);
  }

  private static void updates() {
    Trial.says("at most 6 UPDATES");
    String head = "mdp module a x:[0..6]; [] x=0 -> 1/6:(x'=1)+1/6:(x'=2)+1/6:(x'=3)+1/6:(x'=4)+1/6:(x'=5)+1/6:(x'=6)";
    Trial six = Trial.right(head + ";" + TAIL, 3 + 8 + 6 + 65 + 1 + 5);
    Trial.due("explore", six.desk.explore(), 7);
    Trial.due("outcomes", six.desk.state(0, 5, 0), 6);
    Trial.wrongAt(head + "+1/6:@(x'=0);" + TAIL);
    Trial.wrongAt(head + "+1/6:@true;" + TAIL);
    Trial.wrongAt(head + "+@;" + TAIL);
    Trial.wrongAt(head.replace("1/6:(x'=6)", "1/7:(x'=6)") + "@;" + TAIL);
    Trial.wrongAt("mdp module a [] true -> true @+ 1:true;" + TAIL);
  }

  /** As many constants and assignments as there is room for: only TOKENS bound them. */
  private static void manyOfThem() {
    Trial.says("{\"const\" ..} and ONE {\"&\" ONE} have no bound of their own");
    StringBuilder b = new StringBuilder("mdp const int k0=7;");
    for (int i = 1; i < 248; i++) {
      b.append("const int k").append(i).append("=k").append(i - 1).append(";");
    }
    Trial constants = Trial.right(b + "module a endmodule target k247=7;", 1498);
    constants.desk.explore();
    Trial.due("the last constant", constants.desk.state(0, 1, 0), 1);
    Trial.wrongAt(b + "const int @k246=1;");
    StringBuilder c = new StringBuilder("mdp module m a:bool;b:bool;c:bool;d:bool;e:bool;f:bool;g:bool;h:bool;");
    for (int i = 0; i < 24; i++) {
      c.append("[]h->(a'=!a)&(b'=b)&(c'=c)&(d'=d)&(e'=e)&(f'=f)&(g'=g)&(h'=").append(i == 23).append(");");
    }
    Trial assignments = new Trial();
    Trial.due("assignments", assignments.text(c.toString().replace("(b'=b)&", "") + TAIL) > 0, true);
    Trial.due("explore", assignments.desk.explore(), 1);
  }

  private static void shares() {
    String head = "mdp module a [] true -> ";
    Trial.says("P: .. above 0, not above 1, each INT at most 999, the second one not 0 (WRONG at its last TOKEN)");
    for (String fine : new String[] {"1", "1/1", "999/999", "000999/000999", "1.0", "1.000", "001"}) {
      Trial.due(fine, new Trial().text(head + fine + ":true;" + TAIL) > 0, true);
    }
    Trial.due("least", new Trial().text(head + "1/999:true+998/999:true;" + TAIL) > 0, true);
    Trial.due("least", new Trial().text(head + "0.001:true+0.999:true;" + TAIL) > 0, true);
    for (String bad : new String[] {"@0", "@2", "@999", "@1000", "@999999", "@0.0", "@0.000", "@1.001", "@1.1", "@2.0", "@999.999", "0/@1", "0/@999", "1/@0", "0/@0", "2/@1",
        "999/@998", "1/@1000", "999/@1000", "1000/@1000", "1000/@999", "1000/@1", "1/@999999", "1 / @0"}) {
      Trial.wrongAt(head + bad + ":true;" + TAIL);
      Trial.wrongAt(head + "1/2:true+" + bad + ":true;" + TAIL);
    }
    Trial.wrongAt(head + "1000/@true:true;" + TAIL);
    Trial.wrongAt(head + "2/@-1:true;" + TAIL);
    Trial.wrongAt(head + "@-1:true;" + TAIL);
    Trial.wrongAt(head + "1/1@/1:true;" + TAIL);
    Trial.says("those of a COMMAND are 1 together (WRONG at its \";\")");
    for (String fine : new String[] {"1/2:true+0.5:true", "0.1:true+9/10:true", "1/3:true+1/3:true+1/3:true", "1/997:true+996/997:true", "0.998:true+0.001:true+0.001:true",
        "1/2:true+1/4:true+1/8:true+1/16:true+1/32:true+1/32:true", "2/6:true+4/6:true", "332/993:true+661/993:true"}) {
      Trial.due(fine, new Trial().text(head + fine + ";" + TAIL) > 0, true);
    }
    for (String bad : new String[] {"0.999:true", "998/999:true", "998/999:true+0.001:true", "0.999:true+1/999:true", "1/2:true+1/2:true+0.001:true", "1:true+1:true",
        "1/3:true+0.333:true+0.333:true", "1:true+1:true+1:true+1:true+1:true+1:true", "1/997:true+1/991:true+1/983:true+1/977:true+1/971:true+1/967:true",
        "997/998:true+1/991:true+1/983:true+1/977:true+1/971:true+1/967:true", "996/997:true+990/991:true+982/983:true+976/977:true+970/971:true+966/967:true",
        "1/2:true+1/3:true+1/7:true+1/43:true+1/999:true"}) {
      Trial.wrongAt(head + bad + "@;" + TAIL);
    }
    Trial.due("Sylvester's", new Trial().text(head + "1/2:true+1/3:true+1/7:true+1/42:true;" + TAIL) > 0, true);
    Trial.says("Which of both a COMMAND has is told by its first TOKENS: \"true\" and \"(\" begin an UPDATE");
    for (String bad : new String[] {"@false", "@x:true", "@[1]:true", "@;", "@->true", "@'", "@!true", "@min(1,2):true", "@:true", "@+1:true"}) {
      Trial.wrongAt(head + bad + ";" + TAIL);
    }
    Trial.wrongAt(head + "(@1/2):true;" + TAIL);
    Trial.wrongAt(head + "1:@1:true;" + TAIL);
    Trial.wrongAt(head + "1:@false;" + TAIL);
  }

  private static void nesting() {
    Trial.says("At most 40 of ( ? => ! - min max mod one in another (WRONG at the one too many)");
    String[][] kinds = {{"(", "b", ")"}, {"!", "b", ""}, {"b=>", "b", ""}, {"b?b:", "b", ""}, {"b?", "b", ":b"}, {"!(", "b", ")"}, {"(b=>", "b", ")"}, {"b&(", "b", ")"}};
    String[] marks = {"@(", "@!", "b@=>", "b@?b:", "b@?", "@!(", "@(b=>", "b&@("};
    int[] each = {1, 1, 1, 1, 1, 2, 2, 1};
    for (int i = 0; i < kinds.length; i++) {
      int most = 40 / each[i];
      String open = times(kinds[i][0], most);
      String shut = times(kinds[i][2], most);
      rightGuard(open + kinds[i][1] + shut);
      wrongGuard(open + marks[i] + kinds[i][1] + kinds[i][2] + shut);
    }
    String[][] ints = {{"-", "x", ""}, {"min(", "x", ",1)"}, {"max(1,", "x", ")"}, {"mod(", "x", ",2)"}, {"(", "x", ")"}, {"1-(", "x", ")"}};
    String[] intMarks = {"@-", "@min(", "@max(1,", "@mod(", "@(", "1-@("};
    for (int i = 0; i < ints.length; i++) {
      String open = times(ints[i][0], 40);
      String shut = times(ints[i][2], 40);
      rightGuard("x=" + open + ints[i][1] + shut);
      wrongGuard("x=" + open + intMarks[i] + ints[i][1] + ints[i][2] + shut);
    }
    rightGuard("x=" + times("min(b?1:2,", 39) + "x" + times(")", 39));
    wrongGuard("x=" + times("min(b?1:2,", 39) + "min(b@?1:2,x)" + times(")", 39));
    wrongGuard(times("(", 20) + times("!", 20) + "@(b" + times(")", 21));
    wrongGuard(times("(", 39) + "b=>@(b)" + times(")", 39));
    wrongGuard(times("(", 39) + "b?@(b):b" + times(")", 39));
    wrongGuard(times("(", 39) + "b?b:@(b)" + times(")", 39));
    wrongGuard(times("(", 39) + "b?b:b@=>b" + times(")", 39));
    Trial.says("one in another: those that stand beside each other are not");
    rightGuard(times("(", 39) + "(b)&(b)|!b&(x=x-1-1)" + times(")", 39));
    rightGuard("x=1" + times("-1", 60) + "&x=" + times("-1*", 60) + "1");
    rightGuard(times("(b=>b)&", 60) + "!b");
    rightGuard(times("(b?b:b)|", 50) + "b");
    rightGuard("x=" + times("min(1,mod(2,3))+", 41) + "1");
    rightGuard(times("(", 40) + "b" + times(")", 40) + "&" + times("!", 40) + "b&x=" + times("-", 40) + "x");
    rightGuard(times("(", 40) + "b" + times(")", 40) + "=>b");
    Trial.says("in each E anew");
    String deep = times("(", 40) + "1" + times(")", 40);
    String deeper = times("(", 40) + "@(1)" + times(")", 40);
    String[] places = {"mdp const int k=#; module a" + TAIL, "mdp module a x:[#..1];" + TAIL, "mdp module a x:[0..#];" + TAIL, "mdp module a x:[0..1] init #;" + TAIL,
        "mdp module a x:[0..1]; [] x=# -> true;" + TAIL, "mdp module a x:[0..1]; [] true -> (x'=#);" + TAIL, "mdp module a endmodule target 1=#;"};
    for (String place : places) {
      Trial.due("40 in " + place, new Trial().text(place.replace("#", deep)) > 0, true);
      Trial.wrongAt(place.replace("#", deeper));
    }
  }

  private static void types() {
    Trial.says("+ - * min max mod < <= > >= of ints, = != of two alike, ! & | => of bools, \"?\" of a bool and two alike: WRONG at the SIGN or WORD");
    String[] values = {"x", "b"};
    for (int i = 0; i < 2; i++) {
      for (int j = 0; j < 2; j++) {
        String one = values[i];
        String two = values[j];
        for (String op : new String[] {"+", "-", "*", "<", "<=", ">", ">="}) {
          String end = op.length() == 1 && "+-*".contains(op) ? "=1" : "";
          typed(one + " ", op, two + end, i == 0 && j == 0);
        }
        for (String op : new String[] {"=", "!="}) {
          typed(one, op, two, i == j);
        }
        for (String op : new String[] {"&", "|", "=>"}) {
          typed(one, op, two, i == 1 && j == 1);
        }
        for (String word : new String[] {"min", "max", "mod"}) {
          typed("", word, "(" + one + "," + two + ")=1", i == 0 && j == 0);
        }
        typed("x", "?", one + ":" + two, false);
        typed("(b", "?", one + ":" + two + ")=" + one, i == j);
      }
    }
    typed("", "!", "b", true);
    typed("", "!", "x", false);
    typed("", "-", "x=1", true);
    typed("", "-", "b=1", false);
    Trial.says("WRONG at the SIGN or WORD when all of it is read");
    wrongGuard("b + @)");
    wrongGuard("b * @y");
    wrongGuard("b < @->");
    wrongGuard("x & @|");
    wrongGuard("x => b => @)");
    wrongGuard("x ? b @;");
    wrongGuard("x ? b : @)");
    wrongGuard("min(b, @)");
    wrongGuard("min(b, x @;");
    wrongGuard("! @)");
    wrongGuard("@- true = 1");
    wrongGuard("x & (b @+ x)");
    wrongGuard("x => (b @< x)");
    wrongGuard("b => (x @=> b)");
    wrongGuard("x ? (b @* 1) : b");
    wrongGuard("@min(b, 1) + b = 1");
    wrongGuard("1 @+ b + b = 1");
    wrongGuard("b @& x & x");
    wrongGuard("x @| b | )");
    Trial.says("Guards and the target are bools, bounds ints, inits and what a variable gets are of its type: WRONG at the TOKEN behind the E");
    for (String e : new String[] {"x", "(x+1)", "min(x,1)", "(b?x:x)", "-x", "k"}) {
      Trial.wrongAt(guard(e).replace("->", "@->"));
    }
    Trial.wrongAt("mdp module a endmodule target 1@;");
    Trial.wrongAt("mdp module a endmodule target 1@");
    Trial.wrongAt("mdp module a x:[true@..1];" + TAIL);
    Trial.wrongAt("mdp module a x:[1=1@..1];" + TAIL);
    Trial.wrongAt("mdp module a x:[0..!false@];" + TAIL);
    Trial.wrongAt("mdp module a x:[0..1] init 1=1@;" + TAIL);
    Trial.wrongAt("mdp module a x:bool init 1@;" + TAIL);
    Trial.wrongAt("mdp module a x:bool; [] true -> (x'=0@);" + TAIL);
    Trial.wrongAt("mdp module a x:bool; y:[0..1]; [] true -> (x'=y@);" + TAIL);
    Trial.wrongAt("mdp module a x:[0..1]; y:bool; [] true -> (x'=y@);" + TAIL);
    Trial.wrongAt("mdp module a x:[0..1]; y:bool; [] true -> (y'=y)&(x'=x<1@);" + TAIL);
  }

  /** A guard with that SIGN or WORD in it: whether it is right, or WRONG at it. */
  private static void typed(String before, String sign, String behind, boolean right) {
    if (right) {
      rightGuard(before + sign + behind);
    } else {
      wrongGuard(before + "@" + sign + behind);
    }
  }

  private static void names() {
    Trial.says("A NAME that is not known (constants, variables of all MODULES so far; in COMMANDS and the target): WRONG at it");
    String two = "mdp const int k=1; module a x:[0..1]; [go] true -> true; endmodule module b y:[0..1]; [] #=1 -> (y'=#); endmodule target #=1;";
    for (String known : new String[] {"k", "x", "y"}) {
      Trial.due(known, new Trial().text(two.replace("#", known)) > 0, true);
    }
    for (String unknown : new String[] {"z", "a", "b", "go", "K", "kk", "x_"}) {
      Trial.wrongAt(two.replaceFirst("#", "@" + unknown).replace("#", "1"));
      Trial.wrongAt(two.replaceFirst("#", "1").replaceFirst("#", "@" + unknown).replace("#", "1"));
      Trial.wrongAt(two.replaceFirst("#", "1").replaceFirst("#", "1").replace("#", "@" + unknown));
    }
    Trial.wrongAt("mdp module a x:[0..1]; [] @y=1 -> true; endmodule module b y:[0..1];" + TAIL);
    Trial.wrongAt("mdp module a x:[0..1]; [] true -> (x'=@y); endmodule module b y:[0..1];" + TAIL);
    Trial.says("of constants alone in \"const\", bounds and inits, where variables are not known");
    Trial.right("mdp const int j=1; const int k=j+j; module a x:[j..k] init k;" + TAIL, 32);
    Trial.wrongAt("mdp const int k=@k;");
    Trial.wrongAt("mdp const int j=@k; const int k=1;");
    for (String place : new String[] {"y:[@x..1];", "y:[0..@x];", "y:[0..1] init @x;", "y:bool init @x=1;", "y:[@y..1];", "y:[0..1] init @y;"}) {
      Trial.wrongAt("mdp module a x:[0..1]; " + place + TAIL);
      Trial.wrongAt("mdp module a x:[0..1]; endmodule module b " + place + TAIL);
    }
    Trial.says("a NAME that is given to a constant, variable, MODULE and is one already: WRONG at it");
    Trial.wrongAt("mdp const int k=1; const int @k=1;");
    Trial.wrongAt("mdp const int k=1; module @k" + TAIL);
    Trial.wrongAt("mdp const int k=1; module a @k:bool;" + TAIL);
    Trial.wrongAt("mdp module a @a:bool;" + TAIL);
    Trial.wrongAt("mdp module a x:bool; @x:bool;" + TAIL);
    Trial.wrongAt("mdp module a x:bool; endmodule module @x" + TAIL);
    Trial.wrongAt("mdp module a x:bool; endmodule module @a" + TAIL);
    Trial.wrongAt("mdp module a x:bool; endmodule module b @a:bool;" + TAIL);
    Trial.wrongAt("mdp module a x:bool; endmodule module b @x:bool;" + TAIL);
    Trial.says("(ACTIONS are none of these)");
    Trial free = Trial.right("mdp const int k=1; module a x:bool; [x] true -> true; [a] true -> true; [k] true -> true; [b] true -> true; endmodule module b [y] true -> true; endmodule module y"
        + TAIL, 7 + 6 + 28 + 3 + 7 + 3 + 5);
    Trial.due("actions", free.desk.count(3), 5);
    Trial.says("An UPDATE's NAME is a variable of the same MODULE, once in an UPDATE: else WRONG at it");
    String head = "mdp const int k=1; module a x:bool; [go] true -> true; endmodule module b y:bool; z:bool; [] true -> ";
    for (String bad : new String[] {"(@x'=true)", "(@k'=1)", "(@a'=true)", "(@b'=true)", "(@go'=true)", "(@w'=true)", "(y'=true)&(@y'=true)", "(y'=true)&(z'=y)&(@y'=true)", "(z'=true)&(@x'=y)",
        "(@true'=true)", "(@1'=true)"}) {
      Trial.wrongAt(head + bad + ";" + TAIL);
    }
    Trial.due("once in each", new Trial().text(head + "1/2:(y'=true)&(z'=true)+1/2:(z'=true)&(y'=true);" + TAIL) > 0, true);
    Trial.wrongAt("mdp module a [] true -> (@y'=true); endmodule module b y:bool;" + TAIL);
  }

  /** Whether the constant, or the init of a bool, is BROKEN, and if not, whether it is what it is due to be. */
  private static void constant(String e, String due) {
    if (due == null) {
      Trial.wrongAt("mdp const int k=" + e + "@; module a" + TAIL);
      return;
    }
    Trial trial = new Trial();
    Trial.due("constant " + e, trial.text("mdp const int k=" + e + "; module a endmodule target k=" + due + ";") > 0, true);
    trial.desk.explore();
    Trial.due(e + "=" + due, trial.desk.state(0, 1, 0), 1);
  }

  private static void values() {
    Trial.says("VALUES: ints of 32 bits; what is beyond .. is BROKEN");
    constant(TOP, "65536*32767+65535");
    constant(TOP + "+1", null);
    constant(TOP + "+1-1", null);
    constant(TOP + "+0", TOP);
    constant(TOP + "-(-1)", null);
    constant(BOTTOM, "-65536*32768");
    constant(BOTTOM + "-1", null);
    constant(BOTTOM + "+(-1)", null);
    constant(BOTTOM + "-0", BOTTOM);
    constant("-" + TOP, BOTTOM + "+1");
    constant("-" + TOP + "-1", BOTTOM);
    constant("-" + BOTTOM, null);
    constant("0-" + BOTTOM, null);
    constant("-1-" + BOTTOM, TOP);
    constant(BOTTOM + "*-1", null);
    constant(BOTTOM + "*1", BOTTOM);
    constant(TOP + "*-1", BOTTOM + "+1");
    constant("46340*46340", "214739*10000+5600");
    constant("46341*46341", null);
    constant("46341*-46341", null);
    constant("65536*65536", null);
    constant("65536*65536*0", null);
    constant("0*65536*65536", "0");
    constant("999999*999999", null);
    constant(BOTTOM + "*" + BOTTOM, null);
    constant(TOP + "+" + TOP, null);
    constant(BOTTOM + "+" + BOTTOM, null);
    constant(BOTTOM + "+" + TOP, "-1");
    constant("min(" + BOTTOM + "," + TOP + ")", BOTTOM);
    constant("max(" + BOTTOM + "," + TOP + ")", TOP);
    Trial.says("mod by 0 or less (mod tells 0 up to that) is BROKEN");
    constant("mod(7,1)", "0");
    constant("mod(7,0)", null);
    constant("mod(0,0)", null);
    constant("mod(7,-1)", null);
    constant("mod(7,-7)", null);
    constant("mod(" + BOTTOM + ",-1)", null);
    constant("mod(" + BOTTOM + "," + BOTTOM + ")", null);
    constant("mod(6,7)", "6");
    constant("mod(7,7)", "0");
    constant("mod(8,7)", "1");
    constant("mod(-1,7)", "6");
    constant("mod(-7,7)", "0");
    constant("mod(-8,7)", "6");
    constant("mod(" + BOTTOM + "," + TOP + ")", TOP + "-1");
    constant("mod(" + TOP + "," + TOP + ")", "0");
    constant("mod(-1," + TOP + ")", TOP + "-1");
    Trial.says("& | => ? look at what they need alone");
    String broken = "mod(1,0)=0";
    for (String fine : new String[] {"false&#", "true|#", "false=>#", "true?true:#", "false?#:true", "false&#&#", "true|#|#", "false&#|true", "true|#&#", "(false?mod(1,0):1)=1", "false=>#=>#", "(true|#)&true"}) {
      Trial.due(fine, new Trial().text("mdp module a b:bool init " + fine.replace("#", broken) + ";" + TAIL) > 0, true);
    }
    for (String bad : new String[] {"#", "true&#", "false|#", "true=>#", "#&false", "#|true", "#=>true", "#?true:true", "true?#:true", "false?true:#", "!(#)", "(#)=false", "false&true|#", "mod(1,0)*0=0", "0*mod(1,0)=0",
        "min(0,mod(1,0))=0", "max(mod(1,0),0)=0", "mod(0,1+mod(1,0))=0", "(#)!=(#)", "1<mod(1,0)", "true&true&#"}) {
      Trial.wrongAt("mdp module a b:bool init " + bad.replace("#", broken) + "@;" + TAIL);
    }
  }

  /** Tells whether that is true in the one STATE of a model, where x is 2. */
  private static void told(String e, boolean due) {
    Trial trial = new Trial();
    Trial.due("end of " + e, trial.text("mdp module a x:[0..9] init 2; [] x=3 -> true; endmodule target " + e + ";") > 0, true);
    trial.desk.explore();
    Trial.due(e, trial.desk.state(0, 1, 0), due ? 1 : 0);
  }

  private static void reckoned(String e, boolean due) {
    String truth = due ? "true" : "false";
    told(e, due);
    told("!(" + e + ")", !due);
    told("!!(" + e + ")", due);
    told("(" + e + ")=" + truth, true);
    told("(" + e + ")!=" + truth, false);
    told("(" + e + ")=(1<2)", due);
    told("(" + e + "?x:x+1)=" + (due ? 2 : 3), true);
  }

  private static void operators() {
    Trial.says("< <= > >= = != + - * min max of ints");
    String[] ops = {"<", "<=", ">", ">=", "=", "!="};
    boolean[][] dues = {{true, false, false}, {true, true, false}, {false, false, true}, {false, true, true}, {false, true, false}, {true, false, true}};
    for (int i = 0; i < ops.length; i++) {
      for (int a = 1; a <= 3; a++) {
        reckoned(a + ops[i] + "x", dues[i][a - 1]);
        reckoned((a - 4) + ops[i] + "x-4", dues[i][a - 1]);
        reckoned((a == 1 ? BOTTOM : a == 2 ? "x" : TOP) + ops[i] + "x", dues[i][a - 1]);
      }
    }
    told(BOTTOM + "<" + TOP, true);
    told(TOP + "<=" + BOTTOM, false);
    told(TOP + ">" + BOTTOM, true);
    told("min(x,3)=2&min(3,x)=2&max(x,1)=2&max(1,x)=2&min(-x,x)=-2&max(-x,x)=2&min(x,x)=2", true);
    told("x+3=5&x-3=-1&3-x=1&x*3=6&x*-3=-6&-x*-3=6&x*0=0&--x=2&-x=-2&x--x=4", true);
    told("10-3-2=5&10-(3-2)=9&2+3*4=14&(2+3)*4=20&2*3-4*5=-14&-2*3+1=-5", true);
    Trial.says("= != of two alike, ! & | => of bools, ? of a bool and two alike");
    String[] bools = {"false", "true"};
    for (int a = 0; a < 2; a++) {
      reckoned(bools[a], a == 1);
      reckoned("!" + bools[a], a == 0);
      for (int b = 0; b < 2; b++) {
        reckoned(bools[a] + "&" + bools[b], a == 1 && b == 1);
        reckoned(bools[a] + "|" + bools[b], a == 1 || b == 1);
        reckoned("(" + bools[a] + "=>" + bools[b] + ")", a == 0 || b == 1);
        reckoned(bools[a] + "=" + bools[b], a == b);
        reckoned(bools[a] + "!=" + bools[b], a != b);
        for (int c = 0; c < 2; c++) {
          reckoned("(" + bools[a] + "?" + bools[b] + ":" + bools[c] + ")", (a == 1 ? b : c) == 1);
          told(bools[a] + "&" + bools[b] + "|" + bools[c], a == 1 && b == 1 || c == 1);
          told(bools[a] + "|" + bools[b] + "&" + bools[c], a == 1 || b == 1 && c == 1);
          told(bools[a] + "=>" + bools[b] + "=>" + bools[c], a == 0 || b == 0 || c == 1);
          told(bools[a] + "=>" + bools[b] + "|" + bools[c], a == 0 || b == 1 || c == 1);
          told(bools[a] + "&" + bools[b] + "=>" + bools[c], !(a == 1 && b == 1) || c == 1);
          told("!" + bools[a] + "&" + bools[b] + "|" + bools[c], a == 0 && b == 1 || c == 1);
          told("!" + bools[a] + "=" + bools[b] + "|" + bools[c], a != b || c == 1);
          told(bools[a] + "=>" + bools[b] + "?" + bools[c] + ":!" + bools[c], (a == 0 || b == 1) == (c == 1));
        }
      }
    }
    Trial.says("{..} in E has no bound of its own");
    told("true" + times("&true", 700), true);
    told("true" + times("&true", 700) + "&false", false);
    told("false" + times("|false", 700), false);
    told("false" + times("|false", 700) + "|true", true);
    told("701=1" + times("+1", 700), true);
    told("-699=1" + times("-1", 700), true);
    told("1=1" + times("*1", 700), true);
    told("x=2" + times("&1+1=x", 200), true);
    told("false" + times("|(true?false:true)", 130), false);
    told("true" + times("&(false=>true)", 200), true);
    told("false" + times("|true&false|x<2", 180), false);
    told("0" + times("+min(1,2)", 180) + "=180", true);
  }

  private static void bounds() {
    Trial.says("BROKEN in .. bounds, low above high, more than 1,000 values: WRONG (at the \"]\")");
    for (String fine : new String[] {"0..0", "0..999", "1..1000", "-999..0", "-1000..-1", "-500..499", TOP + ".." + TOP, TOP + "-999.." + TOP, BOTTOM + ".." + BOTTOM, BOTTOM + ".." + BOTTOM + "+999"}) {
      Trial.due(fine, new Trial().text("mdp module a x:[" + fine + "];" + TAIL) > 0, true);
    }
    for (String bad : new String[] {"0..1000", "-1..999", "-1000..0", "1..0", "0..-1", TOP + ".." + BOTTOM, BOTTOM + ".." + TOP, BOTTOM + "..-1", "0.." + TOP, "1.." + TOP, BOTTOM + "..0", BOTTOM + ".." + BOTTOM + "+1000",
        TOP + "-1000.." + TOP, TOP + "+1..0", "0.." + TOP + "+1", "mod(1,0)..1", "0..mod(1,0)", "mod(1,0)..mod(1,0)", BOTTOM + "-1.." + BOTTOM, "999999..0"}) {
      Trial.wrongAt("mdp module a x:[" + bad + "@];" + TAIL);
      Trial.wrongAt("mdp module a x:[" + bad + "@] init 0;" + TAIL);
    }
    Trial.says("BROKEN in .. inits, or an init out of its bounds: WRONG (at the \";\")");
    for (String fine : new String[] {"[3..5] init 3", "[3..5] init 5", "[-5..-3] init -5", "[-5..-3] init -3", "[7..7] init 7", "[" + TOP + ".." + TOP + "] init " + TOP, "[" + BOTTOM + ".." + BOTTOM + "] init " + BOTTOM,
        "bool init true", "bool init false"}) {
      Trial.due(fine, new Trial().text("mdp module a x:" + fine + ";" + TAIL) > 0, true);
    }
    for (String bad : new String[] {"[3..5] init 2", "[3..5] init 6", "[-5..-3] init -6", "[-5..-3] init -2", "[7..7] init 6", "[7..7] init 8", "[0..9] init " + TOP, "[0..9] init " + BOTTOM, "[0..9] init mod(1,0)",
        "[0..9] init " + TOP + "+1", "bool init mod(1,0)=0", "[" + TOP + ".." + TOP + "] init " + BOTTOM}) {
      Trial.wrongAt("mdp module a x:" + bad + "@;" + TAIL);
    }
    Trial.says("No init: low, false");
    Trial low = Trial.explored("mdp module a x:[3..5]; y:[-5..-3]; b:bool; z:[3..5] init 5; c:bool init true;" + TAIL, 1);
    int[] due = {3, -5, 0, 5, 1};
    for (int k = 0; k < due.length; k++) {
      Trial.due("variable " + k, low.desk.state(0, 4, k), due[k]);
    }
    Trial bottom = Trial.explored("mdp module a x:[" + BOTTOM + ".." + BOTTOM + "]; y:[" + TOP + ".." + TOP + "];" + TAIL, 1);
    Trial.due("the least int", bottom.desk.state(0, 4, 0), Integer.MIN_VALUE);
    Trial.due("the greatest int", bottom.desk.state(0, 4, 1), Integer.MAX_VALUE);
  }

  public static void main(String[] args) {
    octets();
    length();
    parting();
    nameLength();
    words();
    numbers();
    signs();
    badBeforeOthers();
    endPlace();
    howManyTokens();
    modules();
    variables();
    commands();
    updates();
    manyOfThem();
    shares();
    nesting();
    types();
    names();
    values();
    operators();
    bounds();
    Trial.finish();
  }
}
