import java.io.ByteArrayOutputStream;
import java.io.PrintStream;
import java.lang.reflect.Method;
import java.lang.reflect.Modifier;
import java.net.URL;
import java.net.URLClassLoader;
import java.nio.charset.StandardCharsets;
import java.nio.file.Files;
import java.nio.file.Path;
import java.util.ArrayList;
import java.util.List;
import java.util.stream.Stream;
import javax.tools.JavaCompiler;
import javax.tools.ToolProvider;

/** README.md: its program prints what the page says, its commands name what there is, no call and no test is left out. */
public final class ReadmeTest {
  private static int wrong;

  private static void need(boolean is, String what) {
    if (!is) {
      wrong++;
      System.out.println("ReadmeTest: " + what);
    }
  }

  /** What stands between the fences of each block of a kind. */
  private static List<String> blocks(String page, String kind) {
    List<String> found = new ArrayList<>();
    String fence = "```" + kind + "\n";
    for (int at = page.indexOf(fence); at >= 0; at = page.indexOf(fence, at + 1)) {
      int from = at + fence.length();
      int to = page.indexOf("```", from);
      found.add(page.substring(from, to < 0 ? page.length() : to));
    }
    return found;
  }

  private static String printed(String program) throws Exception {
    Path folder = Files.createTempDirectory("readme");
    try {
      Path source = Files.writeString(folder.resolve("Example.java"), program);
      JavaCompiler compiler = ToolProvider.getSystemJavaCompiler();
      int failed = compiler.run(null, null, null, "-d", folder.toString(), "src/main/java/OddRanks.java", source.toString());
      return failed == 0 ? run(folder) : "it can't be compiled";
    } finally {
      try (Stream<Path> all = Files.walk(folder)) {
        for (Path file : all.sorted((p, q) -> q.compareTo(p)).toList()) Files.delete(file);
      }
    }
  }

  private static String run(Path folder) throws Exception {
    PrintStream kept = System.out;
    ByteArrayOutputStream told = new ByteArrayOutputStream();
    try (URLClassLoader loader = new URLClassLoader(new URL[] {folder.toUri().toURL()}, ClassLoader.getPlatformClassLoader())) {
      Method main = loader.loadClass("Example").getMethod("main", String[].class);
      System.setOut(new PrintStream(told, true, StandardCharsets.UTF_8));
      main.invoke(null, (Object) new String[0]);
    } finally {
      System.setOut(kept);
    }
    return told.toString(StandardCharsets.UTF_8).replace(System.lineSeparator(), "\n");
  }

  private static void example(String page) throws Exception {
    List<String> programs = blocks(page, "java");
    List<String> told = blocks(page, "text");
    need(programs.size() == 1 && told.size() == 1, "there is one program, and what it prints");
    if (programs.size() != 1 || told.size() != 1) return;
    String got = printed(programs.get(0));
    need(got.equals(told.get(0)), "the program prints\n" + got + "and not\n" + told.get(0));
  }

  /** Each test that is there has a row of its own, and each row a test. */
  private static void tests(String page) throws Exception {
    int rows = 0;
    for (String line : page.split("\n")) {
      if (line.matches("\\| `\\w+Test` \\|.*")) rows++;
    }
    int files = 0;
    try (Stream<Path> all = Files.list(Path.of("src/test/java"))) {
      for (Path file : all.toList()) {
        String name = file.getFileName().toString();
        if (!name.endsWith("Test.java")) continue;
        files++;
        need(page.contains("| `" + name.substring(0, name.length() - 5) + "` |"), "no row tells of " + name);
      }
    }
    need(rows == files, rows + " rows tell of " + files + " tests");
  }

  private static void commands(String page) {
    String all = String.join("", blocks(page, "sh"));
    need(all.contains(".ci/run\n"), "the page says how all tests are run");
    need(Files.isExecutable(Path.of(".ci/run")), ".ci/run can be run");
    for (String word : all.split("\\s+")) {
      if (word.startsWith("src/")) need(Files.exists(Path.of(word)), "there is no " + word);
    }
  }

  private static void calls(String page) {
    for (Method m : OddRanks.class.getDeclaredMethods()) {
      if (Modifier.isPublic(m.getModifiers())) need(page.contains("`" + m.getName() + "`"), "nothing is told of " + m.getName());
    }
  }

  public static void main(String[] args) throws Exception {
    String page = Files.readString(Path.of("README.md"));
    example(page);
    tests(page);
    commands(page);
    calls(page);
    System.out.println(wrong == 0 ? "ReadmeTest: all is as due" : "ReadmeTest: " + wrong + " things are not as due");
    if (wrong != 0) System.exit(1);
  }
}
