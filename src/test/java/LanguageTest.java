import java.io.IOException;
import java.lang.reflect.Constructor;
import java.lang.reflect.Field;
import java.lang.reflect.Method;
import java.lang.reflect.Modifier;
import java.nio.file.Files;
import java.nio.file.Path;
import java.util.ArrayList;
import java.util.Arrays;
import java.util.List;
import java.util.TreeSet;
import java.util.regex.Matcher;
import java.util.regex.Pattern;

/** The face of the class, and the rules of LANGUAGE.md that can be read from source and class. */
final class LanguageTest {
  private static final String[] FACE = {
    "int open(int,int,int)", "int lease(int,int,int)", "int type(long,int)", "int grow(int)",
    "int frame()", "int cut(int)", "int room(int)", "int tick(int)", "int lose(int)",
    "int bend(int,int,int)", "int fall(int)", "int rise(int)", "int line(int,int)",
    "int piece(int,int)", "int lostOn(int,int)", "int queued(int,int)", "int under(int,int,int)",
    "int waits(int)", "int got(int,int)", "int frameOf(int,int)", "int credit()", "int skew()",
    "int witness(int,int)", "boolean check(int,int)", "int status(int)"
  };
  private static final String[] FORBIDDEN_WORDS = {
    "throw", "throws", "try", "catch", "finally", "synchronized", "assert", "native", "volatile",
    "transient", "package", "System.out", "Object", "Integer.valueOf", "\\w+Exact", "equals",
    "hashCode", "toString", "getClass", "Thread", "Random", "currentTimeMillis", "nanoTime"
  };
  private static final int MOST_LINES_OF_A_METHOD = 60;
  private static final int MOST_CLASSES = 12;
  private static final int MOST_FIELDS = 20;
  private static final int MOST_PARAMETERS = 7;

  private LanguageTest() {}

  public static void main(String[] args) throws IOException {
    face();
    for (Class<?> part : parts()) {
      fieldsOf(part);
      methodsOf(part);
    }
    source(Files.readString(Path.of("src/main/java/BundleLine.java")));
    Due.end();
  }

  private static List<Class<?>> parts() {
    List<Class<?>> all = new ArrayList<>(Arrays.asList(BundleLine.class.getDeclaredClasses()));
    all.add(BundleLine.class);
    return all;
  }

  private static void face() {
    TreeSet<String> want = new TreeSet<>(Arrays.asList(FACE));
    TreeSet<String> got = new TreeSet<>();
    TreeSet<String> names = new TreeSet<>();
    for (Method m : BundleLine.class.getDeclaredMethods()) {
      if (!Modifier.isPrivate(m.getModifiers())) {
        got.add(textOf(m));
        names.add(m.getName());
      }
    }
    holds("face is " + got, got.equals(want));
    for (Class<?> part : parts()) {
      for (Method m : part.getDeclaredMethods()) {
        boolean isFace = part == BundleLine.class && want.contains(textOf(m));
        holds(part + " names a method as the face does: " + m, isFace || !names.contains(m.getName()));
      }
    }
    Constructor<?>[] made = BundleLine.class.getDeclaredConstructors();
    holds("one constructor", made.length == 1 && made[0].getParameterCount() == 0);
    holds("a public one", Modifier.isPublic(made[0].getModifiers()));
    int own = BundleLine.class.getModifiers();
    holds("public and final", Modifier.isPublic(own) && Modifier.isFinal(own));
    holds("classes", parts().size() <= MOST_CLASSES);
  }

  private static String textOf(Method m) {
    StringBuilder text = new StringBuilder(m.getReturnType() + " " + m.getName() + "(");
    for (Class<?> type : m.getParameterTypes()) {
      text.append(text.charAt(text.length() - 1) == '(' ? "" : ",").append(type);
    }
    return text.append(")").toString();
  }

  private static void fieldsOf(Class<?> part) {
    int fields = 0;
    for (Field f : part.getDeclaredFields()) {
      if (Modifier.isStatic(f.getModifiers())) {
        holds(f + " is final", Modifier.isFinal(f.getModifiers()));
        holds(f + " is a number", f.getType().isPrimitive());
      } else {
        fields++;
      }
      boolean isHidden = part != BundleLine.class || Modifier.isPrivate(f.getModifiers());
      holds(f + " is private", isHidden);
    }
    holds(part + " has " + fields + " fields", fields <= MOST_FIELDS);
    boolean isNested = part != BundleLine.class;
    holds(part + " is static", !isNested || Modifier.isStatic(part.getModifiers()));
    holds(part + " is not public", !isNested || !Modifier.isPublic(part.getModifiers()));
    holds(part + " has no classes", !isNested || part.getDeclaredClasses().length == 0);
  }

  private static void methodsOf(Class<?> part) {
    for (Method m : part.getDeclaredMethods()) {
      holds(m + " takes too many", m.getParameterCount() <= MOST_PARAMETERS);
      holds(m + " was made by a lambda", !m.isSynthetic());
    }
  }

  private static void source(String text) {
    String code = text.replaceAll("(?s)/\\*.*?\\*/", "").replaceAll("//[^\n]*", "");
    for (String word : FORBIDDEN_WORDS) {
      holds("no " + word, !Pattern.compile("\\b" + word + "\\b").matcher(code).find());
    }
    holds("no lambda, no method reference", !code.contains("->") && !code.contains("::"));
    holds("no text", !code.contains("\""));
    holds("no static block", !Pattern.compile("static\\s*\\{").matcher(code).find());
    holds("no while", !Pattern.compile("\\bwhile\\b").matcher(code).find());
    Matcher imports = Pattern.compile("import ([\\w.*]+);").matcher(code);
    while (imports.find()) {
      holds("import of " + imports.group(1), imports.group(1).equals("java.util.Arrays"));
    }
    Matcher library = Pattern.compile("\\b(Arrays|Math|System|Integer|Long)\\.(\\w+)").matcher(code);
    List<String> used = Arrays.asList("Arrays.copyOf", "Math.min");
    while (library.find()) {
      holds("use of " + library.group(), used.contains(library.group()));
    }
    methodLengths(code);
  }

  /** A method is what stands between a line that opens it and the same depth's closing line. */
  private static void methodLengths(String code) {
    String[] rows = code.split("\n");
    for (int i = 0; i < rows.length; i++) {
      Matcher head = Pattern.compile("^( +)[\\w<>\\[\\] ]+\\([^;]*\\) \\{$").matcher(rows[i]);
      boolean isMethod = head.matches() && !rows[i].matches(" *(for|if|switch|} else).*");
      int end = i;
      while (isMethod && end < rows.length && !rows[end].equals(head.group(1) + "}")) {
        end++;
      }
      holds("short: " + rows[i], end - i < MOST_LINES_OF_A_METHOD);
    }
  }

  private static void holds(String rule, boolean does) {
    Due.is(rule, does, true);
  }
}
