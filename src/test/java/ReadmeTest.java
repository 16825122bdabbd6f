import java.io.ByteArrayOutputStream;
import java.io.IOException;
import java.io.PrintStream;
import java.net.URL;
import java.net.URLClassLoader;
import java.nio.charset.StandardCharsets;
import java.nio.file.Files;
import java.nio.file.Path;
import javax.tools.JavaCompiler;
import javax.tools.ToolProvider;

/** The program in README.md prints what stands below it. */
public final class ReadmeTest {
  /** What stands in the first fenced block of that kind. */
  private static String block(String page, String kind) {
    String open = "```" + kind + "\n";
    int from = page.indexOf(open);
    int to = from < 0 ? -1 : page.indexOf("```\n", from + open.length());
    return to < 0 ? "" : page.substring(from + open.length(), to);
  }

  private static String outputOf(String program, Path room) throws IOException, ReflectiveOperationException {
    Path source = room.resolve("Walker.java");
    Files.writeString(source, program);
    JavaCompiler compiler = ToolProvider.getSystemJavaCompiler();
    int answer = compiler.run(null, null, null, "-d", room.toString(), "-cp", System.getProperty("java.class.path"), source.toString());
    Trial.due("javac of the program in README.md", answer, 0);
    if (answer != 0) {
      return "";
    }
    ByteArrayOutputStream printed = new ByteArrayOutputStream();
    PrintStream out = System.out;
    System.setOut(new PrintStream(printed, true, StandardCharsets.UTF_8));
    try (URLClassLoader loader = new URLClassLoader(new URL[] {room.toUri().toURL()}, MarkovDesk.class.getClassLoader())) {
      loader.loadClass("Walker").getMethod("main", String[].class).invoke(null, (Object) new String[0]);
    } finally {
      System.setOut(out);
    }
    return printed.toString(StandardCharsets.UTF_8);
  }

  public static void main(String[] args) throws IOException, ReflectiveOperationException {
    String page = Files.readString(Path.of("README.md"));
    Path room = Files.createTempDirectory("readme");
    String printed = outputOf(block(page, "java"), room);
    Trial.due("the program in README.md", printed, block(page, "text"));
    Files.deleteIfExists(room.resolve("Walker.java"));
    Files.deleteIfExists(room.resolve("Walker.class"));
    Files.deleteIfExists(room);
    Trial.finish();
  }
}
