import java.lang.reflect.Method;
import java.lang.reflect.Modifier;
import java.nio.file.Files;
import java.nio.file.Path;
import java.util.regex.Matcher;
import java.util.regex.Pattern;

/** README.md: each call of its example answers what stands behind it, and every call of the face is named. */
public final class FewKeysReadme {
  private static final Pattern TEXT = Pattern.compile("String text = \"([^\"]*)\";");
  private static final Pattern CALL = Pattern.compile("x\\.(\\w+)\\(([-0-9, ]*)\\); *// (-?[0-9]+).*");

  private static int wrong = 0;

  private static void must(boolean holds, String what) {
    if (!holds) {
      wrong++;
      System.out.println("not so: " + what);
    }
  }

  private static Method named(String name) {
    for (Method m : FewKeys.class.getDeclaredMethods()) {
      if (Modifier.isPublic(m.getModifiers()) && m.getName().equals(name)) return m;
    }
    throw new IllegalStateException("no call " + name);
  }

  private static int answer(FewKeys x, String name, String numbers) throws Exception {
    String[] row = numbers.isBlank() ? new String[0] : numbers.split(", *");
    Object[] args = new Object[row.length];
    for (int i = 0; i < row.length; i++) args[i] = Integer.parseInt(row[i]);
    return (Integer) named(name).invoke(x, args);
  }

  private static void example(String readme) throws Exception {
    FewKeys x = new FewKeys();
    Matcher text = TEXT.matcher(readme);
    must(text.find(), "there is a text");
    for (char c : text.group(1).toCharArray()) x.feed(1, c);
    int calls = 0;
    for (String line : readme.split("\n")) {
      Matcher call = CALL.matcher(line);
      if (!call.matches()) continue;
      calls++;
      int got = answer(x, call.group(1), call.group(2));
      must(got == Integer.parseInt(call.group(3)), line + " (it answered " + got + ")");
    }
    must(calls >= 20, "there are calls in the example: " + calls);
  }

  private static void names(String readme) {
    for (Method m : FewKeys.class.getDeclaredMethods()) {
      if (Modifier.isPublic(m.getModifiers())) must(readme.contains("`" + m.getName() + "`"), "`" + m.getName() + "` is named");
    }
    for (String word : new String[] {"NONE", "UNKNOWN", "OUTSIDE", "NOT", "FULL", ".ci/run"}) must(readme.contains(word), word + " is named");
  }

  private static void tests(String readme) throws Exception {
    try (var files = Files.list(Path.of("src/test/java"))) {
      for (Path file : (Iterable<Path>) files::iterator) {
        String name = file.getFileName().toString().replace(".java", "");
        must(readme.contains("`" + name + "`"), "`" + name + "` is named");
      }
    }
  }

  public static void main(String[] args) throws Exception {
    String readme = Files.readString(Path.of("README.md"));
    example(readme);
    names(readme);
    tests(readme);
    System.out.println(wrong == 0 ? "README.md says what is so" : wrong + " things in README.md are not so");
    if (wrong != 0) System.exit(1);
  }
}
