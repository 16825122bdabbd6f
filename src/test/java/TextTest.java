/** Promises 1 to 4 and Term 1: what is fed, THE TEXT, and where it is WRONG. */
public final class TextTest {
  private static final String TAIL = " endmodule target true;";
  /** How many tokens guard() makes beside those of the guard. */
  private static final int GUARD = 31;

  private static String times(String s, int n) {
    return s.repeat(n);
  }

  /** A guard of a model with an int x, a bool b and a constant k. */
  private static String guard(String e) {
    return "mdp const int k = 3; module a x : [0..9]; b : bool; [] " + e + " -> true;" + TAIL;
  }

  private static void newObject() {
    MarkovDesk desk = new MarkovDesk();
    Trial.due("wrong()", desk.wrong(), -1);
    for (int what = 0; what < 8; what++) {
      Trial.due("count", desk.count(what), 0);
    }
    Trial.due("bits", desk.bits(false), 0);
    Trial.due("bits", desk.bits(true), 1);
    Trial.due("part", desk.part(false, 0), 0);
    Trial.due("part", desk.part(true, 0), 1);
    Trial.dueThrow("explore", "IllegalStateException", desk::explore);
    Trial.dueThrow("solve", "IllegalStateException", () -> desk.solve(true));
    Trial.dueThrow("end(1)", "IndexOutOfBoundsException", () -> desk.end(1));
    Trial.dueThrow("end(0)", "IllegalArgumentException", () -> desk.end(0));
    Trial.due("wrong()", desk.wrong(), 0);
  }

  private static void feeding() {
    MarkovDesk desk = new MarkovDesk();
    for (int i = 1; i <= 410; i++) {
      Trial.due("feed", desk.feed(0x20202020, 0x20202020, 0x20202020, 0x20202020, 0x20202020), 20 * i);
    }
    Trial.dueThrow("feed 411", "IndexOutOfBoundsException", () -> desk.feed(0, 0, 0, 0, 0));
    Trial.dueThrow("end(8193)", "IndexOutOfBoundsException", () -> desk.end(8193));
    Trial.dueThrow("end(8192)", "IllegalArgumentException", () -> desk.end(8192));
    Trial.due("wrong()", desk.wrong(), 8192);
    Trial.due("feed", desk.feed(0x6d64700a, 0x6d6f6475, 0x6c65ff00, -1, 0), 20);
    Trial.dueThrow("end(11)", "IllegalArgumentException", () -> desk.end(11));
    Trial.due("wrong()", desk.wrong(), 10);
    Trial.due("feed", desk.feed(0x6d64700a, 0x6d6f6475, 0x6c65ff00, -1, 0), 20);
    Trial.dueThrow("end(10)", "IllegalArgumentException", () -> desk.end(10));
    Trial.due("wrong()", desk.wrong(), 10);
  }

  private static void ending() {
    String text = "mdp module a endmodule target true;";
    Trial trial = Trial.right(text, 8);
    MarkovDesk desk = trial.desk;
    Trial.due("modules", desk.count(1), 1);
    Trial.dueThrow("what was fed is gone", "IndexOutOfBoundsException", () -> desk.end(1));
    Trial.due("and the model stays", desk.count(1), 1);
    Trial.due("explore", desk.explore(), 1);
    desk.outcome(0, 0, 0);
    trial.dueResult("the one that stays", 1, 1);
    Trial.dueThrow("end(-1)", "IndexOutOfBoundsException", () -> desk.end(-1));
    Trial.due("still explored", desk.count(4), 1);
    trial.feed("mdp module");
    Trial.dueThrow("end(21)", "IndexOutOfBoundsException", () -> desk.end(21));
    Trial.due("wrong() is of the latest text", desk.wrong(), -1);
    Trial.dueThrow("end(10)", "IllegalArgumentException", () -> desk.end(10));
    Trial.due("wrong()", desk.wrong(), 10);
    Trial.due("no model", desk.count(1), 0);
    Trial.due("no states", desk.count(4), 0);
    trial.dueResult("the result stays", 1, 1);
    Trial.dueThrow("fed is gone", "IndexOutOfBoundsException", () -> desk.end(1));
    Trial.due("read again", trial.text(text), 8);
    Trial.due("wrong()", desk.wrong(), -1);
    Trial.dueThrow("not explored", "IllegalStateException", () -> desk.state(0, 0, 0));
    Trial.due("the text may be cut", new Trial().text(text + "\n"), 8);
  }

  private static void tokens() {
    Trial.right("mdp//x\nmodule a//\nendmodule// $ \ntarget\n\n  true;//", 8);
    Trial.right("mdp module " + times("a", 20) + " endmodule target 1//2\n=1;", 10);
    Trial.right("mdp const int a=999999;module m x:[000000..1];[]x=0->0.5:true+00.500:true;endmodule target!(x<=1)=>x>=0|x!=1;", 49);
    Trial.wrongAt("mdp module " + times("a", 20) + "a @endmodule target true;");
    Trial.wrongAt("mdp module " + times("a", 20) + "@1 endmodule target true;");
    Trial.wrongAt("mdp module " + times("a", 20) + "@1a endmodule target true;");
    Trial.right("mdp module " + times("a", 20) + "endmodule target true;", 8);
    Trial.wrongAt("mdp @$");
    Trial.wrongAt("@");
    Trial.wrongAt("  // mdp\n@");
    Trial.wrongAt("@mdpx module");
    Trial.wrongAt("@Mdp module");
    Trial.wrongAt("mdp const int k = @1234567;");
    Trial.wrongAt("mdp const int k = @123456a;");
    Trial.wrongAt("mdp const int k = @1_;");
    Trial.wrongAt("mdp const int k = @0.5;");
    Trial.wrongAt("mdp const int k = @0.5a;");
    Trial.wrongAt("mdp const int k = @0.1234;");
    Trial.wrongAt("mdp const int k = 1234@.5;");
    Trial.wrongAt("mdp const int k = 1@.;");
    Trial.wrongAt("mdp const int k = 1@..2;");
    Trial.wrongAt("mdp const int k =@= 1;");
    Trial.wrongAt("mdp const int k = 1 = @> 2;");
    Trial.wrongAt("mdp module a @\u007f");
    Trial.wrongAt("mdp $ 1234567 @\u0009");
    Trial.wrongAt("@\u00ffmdp");
    Trial.right("mdp // ~ \n module a endmodule target true;", 8);
    Trial.wrongAt("mdp // @\u007f \n module a endmodule target true;");
    Trial.wrongAt("mdp // @\u001f \n module a endmodule target true;");
    Trial.wrongAt("mdp @$ ~");
    Trial.wrongAt("mdp module a @\rendmodule target true;");
  }

  private static void howManyTokens() {
    // 12 tokens beside those of the sum
    String head = "mdp const int k = 1";
    String tail = "; module a endmodule target true;";
    Trial.right(head + times("+1", 743) + tail, 1500);
    Trial.wrongAt(head + times("+1", 744) + "; module a endmodule target true@;");
    Trial.wrongAt(head + times("+1", 743) + "; module a endmodule target !true;@");
    Trial.wrongAt(head + times("+1", 747) + "@+");
    Trial.wrongAt("mdp const int k = " + times("1+", 747) + "1@+" + times("1+", 100) + "1");
  }

  private static void grammar() {
    Trial.wrongAt("@module a endmodule target true;");
    Trial.wrongAt("mdp @target true;");
    Trial.wrongAt("mdp const @k = 1;");
    Trial.wrongAt("mdp const int @int = 1;");
    Trial.wrongAt("mdp const int k @;");
    Trial.wrongAt("mdp const int k = @;");
    Trial.wrongAt("mdp const int k = 1 @2;");
    Trial.wrongAt("mdp module @endmodule");
    Trial.wrongAt("mdp module a endmodule @const int k = 1;");
    Trial.wrongAt("mdp module a endmodule target true; @;");
    Trial.wrongAt("mdp module a endmodule target true@");
    Trial.wrongAt("mdp module a [] true -> true; @x : bool;" + TAIL);
    Trial.wrongAt("mdp module a x @bool;" + TAIL);
    Trial.wrongAt("mdp module a x : @int;" + TAIL);
    Trial.wrongAt("mdp module a x : [0@, 1];" + TAIL);
    Trial.wrongAt("mdp module a x : [0..1@;" + TAIL);
    Trial.wrongAt("mdp module a x : bool @= true;" + TAIL);
    Trial.wrongAt("mdp module a [@true] true -> true;" + TAIL);
    Trial.wrongAt("mdp module a [go@, go] true -> true;" + TAIL);
    Trial.wrongAt("mdp module a [] true => true @;" + TAIL);
    Trial.wrongAt("mdp module a x:bool; [] true -> @x'=true;" + TAIL);
    Trial.wrongAt("mdp module a x:bool; [] true -> true @& (x'=true);" + TAIL);
    Trial.wrongAt("mdp module a x:bool; [] true -> (x'=true) & @true;" + TAIL);
    Trial.wrongAt("mdp module a x:bool; [] true -> (x@=true);" + TAIL);
    Trial.wrongAt("mdp module a x:bool; [] true -> (x' @: true);" + TAIL);
    Trial.wrongAt("mdp module a x:bool; [] true -> (x'=true@;" + TAIL);
    Trial.wrongAt("mdp module a [] true -> true @+ 1/2 : true;" + TAIL);
    Trial.wrongAt("mdp module a [] true -> 1/2 : true + @true;" + TAIL);
    Trial.wrongAt("mdp module a [] true -> 1/2 @true;" + TAIL);
    Trial.wrongAt("mdp module a [] true -> 1/@0.5 : true;" + TAIL);
    Trial.wrongAt("mdp module a [] true -> 0.5 @/ 2 : true;" + TAIL);
    Trial.wrongAt("mdp module a [] true -> @k : true;" + TAIL);
    Trial.wrongAt("mdp module a [] true -> @;" + TAIL);
  }

  private static void tooMany() {
    StringBuilder modules = new StringBuilder("mdp ");
    for (int i = 0; i < 3; i++) {
      modules.append("module m").append(i).append(" endmodule ");
    }
    Trial.right(modules + "target true;", 14);
    Trial.wrongAt(modules + "@module m3 endmodule target true;");
    StringBuilder variables = new StringBuilder("mdp module a ");
    for (int i = 0; i < 8; i++) {
      variables.append("v").append(i).append(" : bool; ");
    }
    Trial.right(variables + "endmodule target true;", 40);
    Trial.wrongAt(variables + "@v8 : bool; endmodule target true;");
    Trial.wrongAt(variables + "endmodule module b @v8 : bool; endmodule target true;");
    String command = "[] true -> true;";
    Trial.right("mdp module a " + times(command, 40) + TAIL, 3 + 240 + 5);
    Trial.wrongAt("mdp module a " + times(command, 40) + "@" + command + TAIL);
    Trial.wrongAt("mdp module a " + times(command, 39) + " endmodule module b " + command + "@" + command + TAIL);
    String six = "[] true -> 1/6:true" + times("+1/6:true", 5);
    Trial.right("mdp module a " + six + ";" + TAIL, 48);
    Trial.wrongAt("mdp module a " + six + " + 1/6 : @true;" + TAIL);
  }

  private static void nesting() {
    Trial.right(guard(times("(", 40) + "b" + times(")", 40)), GUARD + 81);
    Trial.wrongAt(guard(times("(", 40) + "@(b" + times(")", 41)));
    Trial.wrongAt(guard(times("!", 40) + "@!b"));
    Trial.wrongAt(guard("x=" + times("-", 40) + "@-x"));
    Trial.wrongAt(guard(times("b=>", 40) + "b@=>b"));
    Trial.wrongAt(guard(times("b?b:", 40) + "b@?b:b"));
    Trial.wrongAt(guard(times("b?", 40) + "b@?b"));
    Trial.wrongAt(guard("x=" + times("min(1,", 40) + "@max(1,1)" + times(")", 40)));
    Trial.wrongAt(guard("x=" + times("-", 39) + "mod(1,@-1)"));
    Trial.wrongAt(guard(times("!(", 20) + "@!b" + times(")", 20)));
    Trial.right(guard("b" + times("&!b", 41)), GUARD + 124);
    Trial.right(guard("!b" + times("=>(b)", 39)), GUARD + 158);
    Trial.right(guard("b" + times("&(b=>b)", 45)), GUARD + 271);
    Trial.wrongAt(guard("x=" + times("(", 40) + "1" + times(")", 40) + "+" + times("(", 40) + "@(1"));
  }

  private static void types() {
    Trial.wrongAt(guard("x @+ b = 1"));
    Trial.wrongAt(guard("b @+ x = 1"));
    Trial.wrongAt(guard("1 @+ b + )"));
    Trial.wrongAt(guard("x @* true < 1"));
    Trial.wrongAt(guard("@-b = 1"));
    Trial.wrongAt(guard("x @< b"));
    Trial.wrongAt(guard("x @= b"));
    Trial.wrongAt(guard("x @!= b"));
    Trial.right(guard("b = true & x != k"), GUARD + 7);
    Trial.wrongAt(guard("@!x"));
    Trial.right(guard("!x = 1"), GUARD + 4);
    Trial.wrongAt(guard("b @& x"));
    Trial.wrongAt(guard("x @| b"));
    Trial.wrongAt(guard("b @=> x"));
    Trial.wrongAt(guard("b => b @=> x"));
    Trial.wrongAt(guard("x @=> (b => b)"));
    Trial.wrongAt(guard("x @? b : b"));
    Trial.wrongAt(guard("b @? x : b"));
    Trial.wrongAt(guard("@min(x, b) = 1"));
    Trial.wrongAt(guard("@mod(b, 1) = 1"));
    Trial.wrongAt(guard("x").replace("->", "@->"));
    Trial.wrongAt(guard("(b ? x : k)").replace("->", "@->"));
    Trial.wrongAt(guard("x = 1 @= b"));
    Trial.wrongAt(guard("x < 1 @< 2"));
    Trial.wrongAt(guard("x @= b = b"));
    Trial.wrongAt(guard("b & x @$"));
    Trial.wrongAt(guard("min(b, x) @$"));
    Trial.wrongAt(guard("(b @& x) $"));
    Trial.wrongAt(guard("1 + @!b"));
    Trial.wrongAt(guard("- @!b"));
    Trial.wrongAt(guard("x = @!b"));
    Trial.wrongAt(guard("b & @)"));
    Trial.wrongAt(guard("(b @;"));
    Trial.wrongAt(guard("(b @: b)"));
    Trial.wrongAt(guard("b ? b @;"));
    Trial.wrongAt(guard("(b ? b @)"));
    Trial.wrongAt(guard("min @x"));
    Trial.wrongAt(guard("min(x @) = 1"));
    Trial.wrongAt(guard("min(x, 1 @, 2) = 1"));
    Trial.wrongAt(guard("b @, b"));
    Trial.wrongAt("mdp const int k = 1 < 2@; module a" + TAIL);
    Trial.wrongAt("mdp module a x : [true@..1];" + TAIL);
    Trial.wrongAt("mdp module a x : [0..true@];" + TAIL);
    Trial.wrongAt("mdp module a x : [0..1] init true@;" + TAIL);
    Trial.wrongAt("mdp module a x : bool init 0@;" + TAIL);
    Trial.wrongAt("mdp module a x : bool; [] true -> (x'=1@);" + TAIL);
    Trial.wrongAt("mdp module a x : [0..1]; [] true -> (x'=true@);" + TAIL);
    Trial.wrongAt("mdp module a endmodule target 1@;");
  }

  private static void precedence() {
    // each of these is true in its one state
    for (String e : new String[] {"1+2*3=7", "(1+2)*3=9", "-1*-2=2", "5-2-1=2", "!1=2", "!true|true", "false&false|true",
        "true|false&false", "false=>false&false", "true|true=>true", "(false=>true)=>true", "false=>true=>false",
        "false?false:true?true:false", "true?false?false:true:false", "true=>false?false:true", "mod(-7,3)=2", "mod(7,3)=1",
        "min(-1,1)=-1&max(-1,1)=1", "true=(1<2)", "(1<=1)!=(1>=2)", "2--2=4", "1-1=0&1=1-0",
        "false&mod(1,0)=1|true", "true|mod(1,0)=1", "false=>mod(1,0)=1", "true?true:mod(1,0)=1", "(1=2?mod(1,0):3)=3",
        "min(3,2)*2+mod(5,4)=5", "0-2147=-2147", "1000*1000*2147>0"}) {
      Trial trial = new Trial();
      Trial.due("end of " + e, trial.text("mdp module a endmodule target " + e + ";") > 0, true);
      trial.desk.explore();
      Trial.due(e, trial.desk.state(0, 1, 0), 1);
    }
  }

  private static void names() {
    Trial.wrongAt("mdp const int k = @k;");
    Trial.wrongAt("mdp const int k = 1; const int @k = 2;");
    Trial.wrongAt("mdp const int k = 1; module @k" + TAIL);
    Trial.wrongAt("mdp module a endmodule module @a" + TAIL);
    Trial.wrongAt("mdp module a @a : bool;" + TAIL);
    Trial.wrongAt("mdp const int k = 1; module a @k : bool;" + TAIL);
    Trial.wrongAt("mdp module a x : bool; @x : bool;" + TAIL);
    Trial.wrongAt("mdp module a x : bool; endmodule module b @x : bool;" + TAIL);
    Trial.wrongAt("mdp module a x : bool; endmodule module @x" + TAIL);
    Trial.wrongAt("mdp module a endmodule target @a;");
    Trial.wrongAt("mdp module a x : [0..1]; y : [0..@x];" + TAIL);
    Trial.wrongAt("mdp module a x : [0..1]; y : [0..1] init @x;" + TAIL);
    Trial.wrongAt("mdp module a [] @y -> true; endmodule module b y : bool;" + TAIL);
    Trial.right("mdp module a x : bool; endmodule module b [] x -> true;" + TAIL, 21);
    Trial.wrongAt("mdp module a x : bool; endmodule module b [] x -> (@x'=true);" + TAIL);
    Trial.wrongAt("mdp const int k = 1; module a [] true -> (@k'=1);" + TAIL);
    Trial.wrongAt("mdp module a x : bool; [] true -> (x'=true) & (@x'=true);" + TAIL);
    Trial.wrongAt("mdp module a x : bool; [] true -> (@y'=true);" + TAIL);
    Trial.right("mdp module a x : bool; [x] true -> (x'=true); [a] true -> true;" + TAIL, 31);
    Trial.right("mdp module a x : bool; [] true -> 1/2 : (x'=true) + 1/2 : (x'=true);" + TAIL, 38);
    Trial.wrongAt("mdp const int k = @f $");
  }

  private static void shares() {
    String head = "mdp module a [] true -> ";
    Trial.right(head + "1 : true;" + TAIL, 16);
    Trial.right(head + "1.000 : true;" + TAIL, 16);
    Trial.right(head + "999/999 : true;" + TAIL, 18);
    Trial.right(head + "0.001 : true + 0.999 : true;" + TAIL, 20);
    Trial.wrongAt(head + "@0 : true;" + TAIL);
    Trial.wrongAt(head + "@2 : true;" + TAIL);
    Trial.wrongAt(head + "@0.000 : true;" + TAIL);
    Trial.wrongAt(head + "@1.001 : true;" + TAIL);
    Trial.wrongAt(head + "3/@2 : true;" + TAIL);
    Trial.wrongAt(head + "0/@2 : true;" + TAIL);
    Trial.wrongAt(head + "1/@0 : true;" + TAIL);
    Trial.wrongAt(head + "0/@0 : true;" + TAIL);
    Trial.wrongAt(head + "1/@1000 : true;" + TAIL);
    Trial.wrongAt(head + "1000/@1000 : true;" + TAIL);
    Trial.wrongAt(head + "@1000 true;" + TAIL);
    Trial.wrongAt(head + "2 @$" + TAIL);
    Trial.wrongAt(head + "1/2 : true + 1/3 : true@;" + TAIL);
    Trial.wrongAt(head + "1 : true + 0.001 : true@;" + TAIL);
    Trial.wrongAt(head + "1/2 : true; @$" + TAIL);
    Trial.wrongAt(head + "997/998:true+1/991:true+1/983:true+1/977:true+1/971:true+1/967:true@;" + TAIL);
    Trial.wrongAt(head + "1:true+1:true+1:true+1:true+1:true+1:true@;" + TAIL);
    Trial.right(head + "1/2 : true + 1/3 : true + 1/6 : true;" + TAIL, 30);
  }

  private static void brokenConstants() {
    Trial.wrongAt("mdp const int k = mod(1, 0)@; module a" + TAIL);
    Trial.wrongAt("mdp const int k = mod(1, -1)@; module a" + TAIL);
    Trial.wrongAt("mdp const int k = 65536 * 32768@; module a" + TAIL);
    Trial.right("mdp const int k = 65536 * 32767 + 65535; module a" + TAIL, 18);
    Trial.right("mdp const int k = -65536 * 32768; module a" + TAIL, 17);
    Trial.wrongAt("mdp const int k = -(-65536 * 32768)@; module a" + TAIL);
    Trial.wrongAt("mdp const int k = 65536 * 32767 + 65535; const int l = k + 1 - 1@; module a" + TAIL);
    Trial.wrongAt("mdp const int k = -65536 * 32768 - 1@; module a" + TAIL);
    Trial.wrongAt("mdp const int k = mod(1, 0); @$");
    Trial.wrongAt("mdp module a x : [mod(1, 0)..1@];" + TAIL);
    Trial.wrongAt("mdp module a x : [0..mod(1, 0)@];" + TAIL);
    Trial.wrongAt("mdp module a x : [1..0@];" + TAIL);
    Trial.wrongAt("mdp module a x : [1..0] @$;" + TAIL);
    Trial.right("mdp module a x : [1..1]; y : [-499..500];" + TAIL, 25);
    Trial.wrongAt("mdp module a x : [0..1000@];" + TAIL);
    Trial.wrongAt("mdp module a x : [-65536*32768..65536*32767@];" + TAIL);
    Trial.wrongAt("mdp module a x : [0..1] init 2@;" + TAIL);
    Trial.wrongAt("mdp module a x : [0..1] init -1@;" + TAIL);
    Trial.wrongAt("mdp module a x : [0..1] init mod(0, 0)@;" + TAIL);
    Trial.wrongAt("mdp module a x : bool init mod(0, 0) = 1@;" + TAIL);
  }

  public static void main(String[] args) {
    newObject();
    feeding();
    ending();
    tokens();
    howManyTokens();
    grammar();
    tooMany();
    nesting();
    types();
    precedence();
    names();
    shares();
    brokenConstants();
    Trial.finish();
  }
}
