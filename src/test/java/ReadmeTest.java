import java.io.ByteArrayOutputStream;
import java.io.PrintStream;
import java.net.URL;
import java.net.URLClassLoader;
import java.nio.charset.StandardCharsets;
import java.nio.file.Files;
import java.nio.file.Path;
import javax.tools.ToolProvider;

/** The example of README.md: it compiles with the class alone and prints what README.md says; run where README.md is. */
public final class ReadmeTest {
  public static void main(String[] args) throws Exception {
    String readme = Files.readString(Path.of("README.md"), StandardCharsets.UTF_8);
    String due = block(readme, "```text\n");
    String got = printedBy(block(readme, "```java\n"));
    if (!got.equals(due)) {
      System.out.println("README.md says that its example prints\n" + due + "but it prints\n" + got);
      System.exit(1);
    }
    System.out.println("the example prints what README.md says");
  }

  private static String block(String readme, String mark) {
    int from = readme.indexOf(mark) + mark.length();
    int to = readme.indexOf("```", from);
    if (from < mark.length() || to < 0) {
      System.out.println("README.md has no block " + mark);
      System.exit(1);
    }
    return readme.substring(from, to);
  }

  private static String printedBy(String program) throws Exception {
    Path dir = Files.createTempDirectory("readme");
    Path file = dir.resolve("Example.java");
    try {
      Files.writeString(file, program);
      String[] how = {"-d", dir.toString(), "src/main/java/ToastGaol.java", file.toString()};
      if (ToolProvider.getSystemJavaCompiler().run(null, null, null, how) != 0) return "nothing: it does not compile\n";
      return run(dir);
    } finally {
      for (java.io.File made : dir.toFile().listFiles()) made.delete();
      Files.delete(dir);
    }
  }

  private static String run(Path dir) throws Exception {
    PrintStream console = System.out;
    ByteArrayOutputStream printed = new ByteArrayOutputStream();
    System.setOut(new PrintStream(printed, true));
    // a loader without the test's own classes above it: the example must find the class that was compiled with it
    try (URLClassLoader loader = new URLClassLoader(new URL[] {dir.toUri().toURL()}, ClassLoader.getPlatformClassLoader())) {
      loader.loadClass("Example").getMethod("main", String[].class).invoke(null, (Object) new String[0]);
    } finally {
      System.setOut(console);
    }
    return printed.toString().replace("\r\n", "\n");
  }
}
