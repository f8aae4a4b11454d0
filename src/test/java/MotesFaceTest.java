import java.lang.reflect.Constructor;
import java.lang.reflect.Field;
import java.lang.reflect.Method;
import java.lang.reflect.Modifier;
import java.nio.file.Files;
import java.nio.file.Path;
import java.util.ArrayList;
import java.util.Arrays;
import java.util.HashSet;
import java.util.List;
import java.util.Set;
import java.util.TreeSet;
import java.util.regex.Matcher;
import java.util.regex.Pattern;

/** The public face as the document has it, and those rules of LANGUAGE.md that a text shows. */
public final class MotesFaceTest {
  private static final Path DOC = Path.of("../shared/DOC.md");
  private static final Path MAIN = Path.of("src/main/java/MotesHaveASeat.java");
  private static final Check CHECK = new Check();

  public static void main(String[] args) throws Exception {
    face();
    privateRest();
    nestedClasses();
    forbiddenWords();
    libraries();
    CHECK.end();
  }

  private static String signature(Method m) {
    List<String> types = new ArrayList<>();
    for (Class<?> type : m.getParameterTypes()) {
      types.add(type.getName());
    }
    return m.getReturnType().getName() + " " + m.getName() + "(" + String.join(", ", types) + ")";
  }

  private static void face() throws Exception {
    Set<String> wanted = new TreeSet<>();
    Matcher m = Pattern.compile("(?m)^    public (int|long) (\\w+)\\((.*)\\);$")
        .matcher(Files.readString(DOC));
    while (m.find()) {
      String types = m.group(3).replaceAll("(\\w+) \\w+", "$1");
      wanted.add(m.group(1) + " " + m.group(2) + "(" + types + ")");
    }
    Set<String> had = new TreeSet<>();
    for (Method method : MotesHaveASeat.class.getDeclaredMethods()) {
      if (Modifier.isPublic(method.getModifiers())) {
        had.add(signature(method));
      }
    }
    CHECK.due("methods of the face", wanted.size(), 54);
    CHECK.that("the face is " + wanted + ", and not " + had, wanted.equals(had));
    CHECK.that("final", Modifier.isFinal(MotesHaveASeat.class.getModifiers()));
    Constructor<?>[] makers = MotesHaveASeat.class.getDeclaredConstructors();
    CHECK.due("constructors", makers.length, 1);
    CHECK.due("its arguments", makers[0].getParameterCount(), 0);
    CHECK.due("NONE", MotesHaveASeat.NONE, -1);
  }

  private static void privateRest() {
    Set<String> open = new HashSet<>();
    for (Method m : MotesHaveASeat.class.getDeclaredMethods()) {
      if (Modifier.isPublic(m.getModifiers())) {
        open.add(m.getName());
      }
    }
    for (Method m : MotesHaveASeat.class.getDeclaredMethods()) {
      boolean isPublic = Modifier.isPublic(m.getModifiers());
      CHECK.that(m + " is public or private", isPublic || Modifier.isPrivate(m.getModifiers()));
      CHECK.that(m + " has a name of its own", isPublic || !open.contains(m.getName()));
      CHECK.that(m + " takes at most seven", m.getParameterCount() <= 7);
    }
    for (Field f : MotesHaveASeat.class.getDeclaredFields()) {
      CHECK.that(f + " is private", f.getName().equals("NONE")
          || Modifier.isPrivate(f.getModifiers()));
    }
    for (Class<?> inside : MotesHaveASeat.class.getDeclaredClasses()) {
      for (Method m : inside.getDeclaredMethods()) {
        CHECK.that(m + " has a name of its own", !open.contains(m.getName()));
      }
    }
  }

  private static void nestedClasses() {
    List<Class<?>> all = new ArrayList<>(Arrays.asList(MotesHaveASeat.class.getDeclaredClasses()));
    CHECK.that("some twelve classes at most", all.size() < 12);
    all.add(MotesHaveASeat.class);
    for (Class<?> c : all) {
      CHECK.that(c + " is static", c == MotesHaveASeat.class
          || Modifier.isStatic(c.getModifiers()));
      int fields = 0;
      for (Field f : c.getDeclaredFields()) {
        boolean isStatic = Modifier.isStatic(f.getModifiers());
        fields += isStatic ? 0 : 1;
        CHECK.that(f + " is final, if static", !isStatic || Modifier.isFinal(f.getModifiers()));
      }
      CHECK.that(c + " has some twenty fields at most", fields <= 20);
    }
  }

  private static String code() throws Exception {
    return Files.readString(MAIN).replaceAll("(?s)/\\*.*?\\*/", "").replaceAll("//[^\n]*", "");
  }

  private static void forbiddenWords() throws Exception {
    String code = code();
    String[] words = {"throw", "throws", "try", "catch", "finally", "synchronized", "assert",
        "package", "protected", "hashCode", "toString", "double", "float", "Object", "System\\.out",
        "currentTimeMillis", "nanoTime", "Random", "Thread", "volatile", "native", "super"};
    for (String word : words) {
      CHECK.that("no " + word, !Pattern.compile("\\b" + word + "\\b").matcher(code).find());
    }
    CHECK.that("no lambda", !code.contains("->"));
    CHECK.that("no method reference", !code.contains("::"));
    CHECK.that("no name that ends in Exact", !code.contains("Exact("));
    CHECK.that("no static block", !Pattern.compile("static\\s*\\{").matcher(code).find());
    CHECK.that("no sign beyond 127", code.chars().allMatch(c -> c < 128));
  }

  private static void libraries() throws Exception {
    Matcher imports = Pattern.compile("(?m)^import (.*);$").matcher(code());
    while (imports.find()) {
      CHECK.that(imports.group(1), List.of("java.util.Arrays", "java.util.ArrayList",
          "java.util.List", "java.util.Iterator").contains(imports.group(1)));
    }
  }
}
