import java.io.IOException;
import java.lang.reflect.Constructor;
import java.lang.reflect.Field;
import java.lang.reflect.Method;
import java.lang.reflect.Modifier;
import java.nio.file.Files;
import java.nio.file.Path;
import java.util.HashSet;
import java.util.List;
import java.util.Set;
import java.util.TreeSet;
import java.util.regex.Pattern;

/** The rules of LANGUAGE.md that can be seen from outside: the face, sizes, and what must not stand in the file. */
public final class RulesTest {
  private static final List<String> FACE = List.of(
      "public int MarkovDesk.bits(boolean)",
      "public boolean MarkovDesk.check(boolean) throws java.lang.IllegalStateException",
      "public void MarkovDesk.claim(int,long,long) throws java.lang.IllegalArgumentException,java.lang.IllegalStateException,java.lang.IndexOutOfBoundsException",
      "public void MarkovDesk.claimResult(int) throws java.lang.IllegalStateException,java.lang.IndexOutOfBoundsException,java.lang.UnsupportedOperationException",
      "public int MarkovDesk.count(int) throws java.lang.IllegalArgumentException",
      "public int MarkovDesk.end(int) throws java.lang.IndexOutOfBoundsException,java.lang.IllegalArgumentException",
      "public int MarkovDesk.explore() throws java.lang.IllegalStateException,java.lang.ArithmeticException,java.lang.UnsupportedOperationException",
      "public int MarkovDesk.feed(int,int,int,int,int) throws java.lang.IndexOutOfBoundsException",
      "public int MarkovDesk.outcome(int,int,int) throws java.lang.IllegalStateException,java.lang.IndexOutOfBoundsException",
      "public int MarkovDesk.part(boolean,int) throws java.lang.IndexOutOfBoundsException",
      "public int MarkovDesk.solve(boolean) throws java.lang.IllegalStateException",
      "public int MarkovDesk.state(int,int,int) throws java.lang.IllegalArgumentException,java.lang.IllegalStateException,java.lang.IndexOutOfBoundsException",
      "public boolean MarkovDesk.value(boolean,int) throws java.lang.IllegalStateException,java.lang.IndexOutOfBoundsException",
      "public boolean MarkovDesk.within(boolean,int,int) throws java.lang.IllegalArgumentException,java.lang.IllegalStateException,java.lang.IndexOutOfBoundsException",
      "public int MarkovDesk.wrong()");

  private static void face() {
    Set<String> members = new TreeSet<>();
    Set<String> names = new HashSet<>();
    for (Method m : MarkovDesk.class.getDeclaredMethods()) {
      if (!Modifier.isPrivate(m.getModifiers())) {
        members.add(m.toString());
        names.add(m.getName());
      }
    }
    Trial.due("the face", members, new TreeSet<>(FACE));
    for (Field f : MarkovDesk.class.getDeclaredFields()) {
      Trial.due("private " + f, Modifier.isPrivate(f.getModifiers()), true);
    }
    for (Constructor<?> c : MarkovDesk.class.getDeclaredConstructors()) {
      Trial.due("constructor", c.toString(), "public MarkovDesk()");
    }
    Trial.due("final", Modifier.isFinal(MarkovDesk.class.getModifiers()), true);
    Class<?>[] inside = MarkovDesk.class.getDeclaredClasses();
    Trial.due("classes", inside.length + 1 <= 12, true);
    for (Class<?> c : inside) {
      Trial.due("static " + c, Modifier.isStatic(c.getModifiers()), true);
      checkClass(c, names);
    }
    checkClass(MarkovDesk.class, Set.of());
  }

  private static void checkClass(Class<?> c, Set<String> taken) {
    int fields = 0;
    for (Field f : c.getDeclaredFields()) {
      if (Modifier.isStatic(f.getModifiers())) {
        Trial.due("final " + f, Modifier.isFinal(f.getModifiers()), true);
      } else {
        fields++;
      }
    }
    Trial.due("fields of " + c + ", " + fields, fields <= 22, true);
    for (Method m : c.getDeclaredMethods()) {
      Trial.due("parameters of " + m, m.getParameterCount() <= 7, true);
      Trial.due("name of " + m, taken.contains(m.getName()), false);
    }
  }

  private static void source() throws IOException {
    List<String> lines = Files.readAllLines(Path.of("src/main/java/MarkovDesk.java"));
    Pattern refused = Pattern.compile("\\b(import|package|try|catch|finally|synchronized|assert|native|volatile|transient|enum|record|interface|double|float|var|goto)\\b|->|::|\\bwhile \\(true\\)|Exact\\(");
    int start = -1;
    for (int i = 0; i < lines.size(); i++) {
      String line = lines.get(i);
      String code = line.replaceAll("\"[^\"]*\"", "").replaceAll("//.*", "");
      if (!line.trim().startsWith("*") && !line.trim().startsWith("/*")) {
        Trial.due("line " + (i + 1) + " keeps the rules", refused.matcher(code).find(), false);
      }
      if (line.matches("  (  )?[a-z].*\\{") && !line.contains(" class ")) {
        start = i;
      }
      if (line.matches("  (  )?\\}") && start >= 0) {
        Trial.due("lines of the method at " + (start + 1), i - start <= 60, true);
        start = -1;
      }
    }
  }

  public static void main(String[] args) throws IOException {
    face();
    source();
    Trial.finish();
  }
}
