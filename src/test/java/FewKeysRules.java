import java.lang.reflect.Constructor;
import java.lang.reflect.Field;
import java.lang.reflect.Method;
import java.lang.reflect.Modifier;
import java.nio.file.Files;
import java.nio.file.Path;
import java.util.Arrays;
import java.util.HashSet;
import java.util.List;
import java.util.Random;
import java.util.Set;
import java.util.TreeSet;

/** The face of the document, the rules of LANGUAGE.md that can be seen from outside, and calls with any arguments. */
public final class FewKeysRules {
  private static final List<String> FACE = List.of("feed(int,long)", "reckoner()", "fault()", "told(int)", "key(int,int)",
    "strike(int)", "begin()", "fewest(int)", "way(int,int)", "least(int)", "never(int)", "farthest(int)", "target(int)",
    "targetAt(int)", "forget()", "more(int)", "list()", "quick(int,int)", "struck(int,int,int)", "lost(int)",
    "game(int,int,int)", "write(int,int)", "tear()", "judge()", "drift(int)", "seed(int)", "keep(int)", "goBack(int)");
  private static final List<String> FORBIDDEN = List.of("throw", "throws", "try", "catch", "synchronized", "assert", "protected",
    "Random", "Thread", "System.out", "System.err", "nanoTime", "currentTimeMillis", "HashMap", "Object", "double", "float",
    "hashCode", "toString", "native", "volatile", "var");

  private static int wrong = 0;

  private static void must(boolean holds, String what) {
    if (!holds) {
      wrong++;
      System.out.println("not so: " + what);
    }
  }

  private static String signature(Method m) {
    StringBuilder b = new StringBuilder(m.getName()).append('(');
    for (Class<?> type : m.getParameterTypes()) b.append(b.charAt(b.length() - 1) == '(' ? "" : ",").append(type.getName());
    return b.append(')').toString();
  }

  private static void face() throws Exception {
    Class<?> c = FewKeys.class;
    must(Modifier.isPublic(c.getModifiers()) && Modifier.isFinal(c.getModifiers()), "the class is public and final");
    Set<String> seen = new TreeSet<>();
    for (Method m : c.getDeclaredMethods()) {
      if (!Modifier.isPrivate(m.getModifiers())) {
        seen.add(signature(m));
        must(Modifier.isPublic(m.getModifiers()) && m.getReturnType() == int.class, signature(m) + " is public and answers an int");
      }
    }
    must(seen.equals(new TreeSet<>(FACE)), "the methods are those of the document: " + seen);
    Constructor<?>[] made = c.getDeclaredConstructors();
    must(made.length == 1 && made[0].getParameterCount() == 0 && Modifier.isPublic(made[0].getModifiers()), "one public constructor");
    Set<String> constants = new TreeSet<>();
    for (Field f : c.getDeclaredFields()) {
      if (!Modifier.isPrivate(f.getModifiers())) constants.add(f.getName() + "=" + f.getInt(null));
    }
    must(constants.equals(new TreeSet<>(List.of("NONE=-1", "UNKNOWN=-1000000001", "OUTSIDE=-1000000002", "NOT=-1000000003",
      "FULL=-1000000004"))), "the constants are those of the document: " + constants);
  }

  private static void shapes() {
    Set<String> publicNames = new HashSet<>();
    for (String s : FACE) publicNames.add(s.substring(0, s.indexOf('(')));
    Class<?>[] inside = FewKeys.class.getDeclaredClasses();
    must(inside.length <= 12, "at most some twelve classes");
    Class<?>[] all = Arrays.copyOf(inside, inside.length + 1);
    all[inside.length] = FewKeys.class;
    for (Class<?> c : all) {
      must(c == FewKeys.class || Modifier.isStatic(c.getModifiers()) && !Modifier.isPublic(c.getModifiers()), c + " is static and not public");
      int fields = 0;
      for (Field f : c.getDeclaredFields()) {
        if (Modifier.isStatic(f.getModifiers())) must(Modifier.isFinal(f.getModifiers()), f + " is final");
        else fields++;
      }
      must(fields <= 20, c + " has at most some twenty fields");
      for (Method m : c.getDeclaredMethods()) {
        must(m.getParameterCount() <= 7, m + " takes at most seven parameters");
        must(c == FewKeys.class && Modifier.isPublic(m.getModifiers()) || !publicNames.contains(m.getName()), m + " has a name of its own");
      }
    }
  }

  private static void source() throws Exception {
    String source = Files.readString(Path.of("src/main/java/FewKeys.java"));
    String code = source.replaceAll("(?s)/\\*.*?\\*/", "").replaceAll("//[^\n]*", "").replaceAll("\"[^\"\n]*\"", "\"\"");
    for (String word : FORBIDDEN) {
      must(!code.matches("(?s).*(?<![A-Za-z.])" + word.replace(".", "\\.") + "(?![A-Za-z]).*"), "no " + word);
    }
    must(!code.contains("->") && !code.contains("::"), "no lambda, no method reference");
    must(!code.contains("package "), "no package line");
    for (String line : code.split("\n")) {
      must(!line.startsWith("import ") || line.equals("import java.util.Arrays;"), "no import but Arrays: " + line);
    }
    for (int i = 0; i < source.length(); i++) must(source.charAt(i) < 127, "a plain sign at " + i);
    methodLengths(source.split("\n"));
  }

  /** A method begins with a line that ends in ") {" within a class, and ends with a brace as far from the margin. */
  private static void methodLengths(String[] lines) {
    for (int i = 0; i < lines.length; i++) {
      String margin = lines[i].startsWith("        ") ? "        " : "    ";
      boolean begins = lines[i].matches(margin + "[A-Za-z].*\\) \\{") && !lines[i].matches(" *(if|for|while|switch) .*");
      for (int j = i; begins && j < lines.length; j++) {
        if (lines[j].equals(margin + "}")) {
          must(j - i < 60, "at most some sixty lines from line " + (i + 1));
          break;
        }
      }
    }
  }

  private static int any(Random random) {
    switch (random.nextInt(4)) {
      case 0: return random.nextInt();
      case 1: return random.nextInt(12) - 3;
      case 2: return random.nextInt(103) - 1;
      default: return new int[] {Integer.MIN_VALUE, Integer.MAX_VALUE, -1000000001, -1, 255, 256, 400, 999}[random.nextInt(8)];
    }
  }

  private static final String[] TEXTS = {"", "dial round 10 2;", "dial stop 10 2;figure 7 2;figure 0 1;times 3;less 2;is 1;stuck 4 2 5;now plus 30 4;clear 1;",
    "dial round 2 1;figure 1 1;less 1;", "dial round 3 4;now times 80 1;now less 79 1;plus 9;is 9;figure 2 1;stuck 2 2 9;", "dial dial"};

  /** No call may throw, whatever is asked; what it answers is held against the model elsewhere. */
  private static void anyArguments() throws Exception {
    Method[] face = FewKeys.class.getMethods();
    Arrays.sort(face, (a, b) -> signature(a).compareTo(signature(b)));
    for (int run = 0; run < 150; run++) {
      Random random = new Random(run);
      FewKeys x = new FewKeys();
      for (int i = 0; i < 120; i++) {
        if (i % 60 == 0) {
          for (char c : TEXTS[random.nextInt(TEXTS.length)].toCharArray()) x.feed(1, c);
          x.reckoner();
        }
        Method m = face[random.nextInt(face.length)];
        if (m.getDeclaringClass() != FewKeys.class) continue;
        Object[] args = new Object[m.getParameterCount()];
        for (int j = 0; j < args.length; j++) {
          if (m.getParameterTypes()[j] == long.class) args[j] = random.nextLong();
          else args[j] = any(random);
        }
        m.invoke(x, args);
      }
    }
  }

  public static void main(String[] args) throws Exception {
    face();
    shapes();
    source();
    anyArguments();
    System.out.println(wrong == 0 ? "all rules hold" : wrong + " rules do not hold");
    if (wrong != 0) System.exit(1);
  }
}
