/**
 * Term 1: "WRONG is the first TOKEN that can not stand where it is". Each TOKEN of a text that has all of the grammar is
 * left out, or stands twice, or has any other one in its place or before it, and what end() and wrong() answer is held
 * against the reference.
 */
public final class TokenPlacesTest {
  private static final String TEXT = "mdp const int k = 3 ; module a x : [ 0 .. k ] init min ( 1 , k ) ; b : bool init true ; [ go ] x < k & ! b => ( b | false ) -> 1 / 2 : "
      + "( x ' = x + 1 ) & ( b ' = b ? false : true ) + 0.5 : true ; [ ] x >= 1 - - 1 * 2 -> ( x ' = 0 ) ; endmodule module c y : [ - 1 .. 1 ] ; [ go ] x != 2 -> true ; "
      + "endmodule target x = mod ( 7 , 4 ) | max ( x , 1 ) <= 0 & x > 1 ;";
  private static final String OTHERS = "mdp const int bool module endmodule init target true false min max mod x b k a go new 0 1 2 1000 0.5 1.5 "
      + "-> .. => != <= >= = < > + - * / ! & | ? : ; , ' ( ) [ ] $ . 1234567";
  private static int wrong;
  private static int texts;

  private static void read(String text) {
    Both both = new Both("text");
    both.text(text);
    texts++;
    wrong += both.wrong;
  }

  private static String join(String[] tokens, int at, String instead) {
    StringBuilder b = new StringBuilder();
    for (int i = 0; i < tokens.length; i++) {
      b.append(i == at ? instead : tokens[i]).append(" ");
    }
    return b.toString();
  }

  public static void main(String[] args) {
    String[] tokens = TEXT.split(" ");
    Trial.right(TEXT, tokens.length + 1);
    for (int at = 0; at < tokens.length && wrong < 20; at++) {
      read(join(tokens, at, ""));
      read(join(tokens, at, tokens[at] + " " + tokens[at]));
      read(TEXT.substring(0, join(tokens, -1, "").length() * at / tokens.length));
      for (String other : OTHERS.split(" ")) {
        read(join(tokens, at, other));
        read(join(tokens, at, other + " " + tokens[at]));
      }
    }
    for (String other : OTHERS.split(" ")) {
      read(TEXT + other);
    }
    System.out.println("texts: " + texts);
    System.exit(wrong + Trial.wrong > 0 ? 1 : 0);
  }
}
