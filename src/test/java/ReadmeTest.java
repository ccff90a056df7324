import java.io.ByteArrayOutputStream;
import java.io.IOException;
import java.io.PrintStream;
import java.lang.reflect.Method;
import java.lang.reflect.Modifier;
import java.nio.charset.StandardCharsets;
import java.nio.file.Files;
import java.nio.file.Path;
import java.util.Arrays;
import java.util.regex.Matcher;
import java.util.regex.Pattern;

/** README.md: its example is the one that is compiled, prints what is told, and each call is told. */
final class ReadmeTest {
  private static final Due due = new Due("ReadmeTest");

  public static void main(String[] args) throws IOException {
    String readme = Files.readString(Path.of("README.md"));
    example(readme);
    calls(readme);
    tests(readme);
    due.end();
  }

  private static void example(String readme) throws IOException {
    due.same("the example", block(readme, "java"), Files.readString(Path.of("src/test/java/Example.java")));
    PrintStream before = System.out;
    ByteArrayOutputStream printed = new ByteArrayOutputStream();
    System.setOut(new PrintStream(printed, true, StandardCharsets.UTF_8));
    Example.main(new String[0]);
    System.setOut(before);
    String lines = printed.toString(StandardCharsets.UTF_8).replace(System.lineSeparator(), "\n");
    due.same("what the example prints", lines, block(readme, "text"));
  }

  private static String block(String readme, String sort) {
    Matcher found = Pattern.compile("(?s)```" + sort + "\n(.*?)```").matcher(readme);
    return found.find() ? found.group(1) : "missing";
  }

  private static void calls(String readme) {
    for (Method m : NobodySails.class.getDeclaredMethods()) {
      if (Modifier.isPublic(m.getModifiers())) {
        Matcher row = Pattern.compile("(?m)^\\| `" + m.getName() + "\\(([^)]*)\\)` \\|").matcher(readme);
        boolean isTold = row.find();
        due.same(m.getName() + " is told", isTold ? 1 : 0, 1);
        long parameters = isTold ? Arrays.stream(row.group(1).split(", ")).filter(p -> !p.isEmpty()).count() : -1;
        due.same(m.getName() + "'s parameters", parameters, m.getParameterCount());
      }
    }
  }

  private static void tests(String readme) throws IOException {
    try (var files = Files.newDirectoryStream(Path.of("src/test/java"), "*Test.java")) {
      for (Path file : files) {
        String name = file.getFileName().toString().replace(".java", "");
        due.same(name + " is told", readme.contains("| " + name + " |") ? 1 : 0, 1);
      }
    }
  }
}
