import java.lang.reflect.Constructor;
import java.lang.reflect.Field;
import java.lang.reflect.Method;
import java.lang.reflect.Modifier;
import java.nio.file.Files;
import java.nio.file.Path;
import java.util.ArrayList;
import java.util.Arrays;
import java.util.List;
import java.util.Set;
import java.util.TreeSet;
import java.util.regex.Matcher;
import java.util.regex.Pattern;
import java.util.stream.Collectors;

/** The face is the document's, to the word; rules of LANGUAGE.md that can be looked up in the source hold. */
public final class FaceTest {
  private static int wrong = 0;

  private static void want(boolean good, String what) {
    if (!good) {
      wrong++;
      System.out.println("not so: " + what);
    }
  }

  /** The heads of the methods, as the document writes them: name and types. */
  private static Set<String> ofDocument(String doc) {
    String block = doc.substring(doc.indexOf("```java"), doc.indexOf("## Terms"));
    Set<String> heads = new TreeSet<>();
    Matcher m = Pattern.compile("public (int|long) (\\w+)\\(([^)]*)\\);").matcher(block);
    while (m.find()) {
      String types = Arrays.stream(m.group(3).split(",")).map(String::trim).filter(p -> !p.isEmpty())
          .map(p -> p.split(" ")[0]).collect(Collectors.joining(","));
      heads.add(m.group(1) + " " + m.group(2) + "(" + types + ")");
    }
    return heads;
  }

  private static String headOf(Method m) {
    return m.getReturnType().getName() + " " + m.getName() + "("
        + Arrays.stream(m.getParameterTypes()).map(Class::getName).collect(Collectors.joining(",")) + ")";
  }

  private static void face(String doc) {
    Set<String> heads = new TreeSet<>();
    Set<String> names = new TreeSet<>();
    for (Method m : FiftyOneCards.class.getDeclaredMethods()) {
      if (Modifier.isPublic(m.getModifiers())) {
        heads.add(headOf(m));
        names.add(m.getName());
        want(!Modifier.isStatic(m.getModifiers()), m + " is of an object");
      } else {
        want(Modifier.isPrivate(m.getModifiers()), m + " is private");
      }
    }
    want(heads.equals(ofDocument(doc)), "the methods are " + ofDocument(doc) + " but " + heads);
    want(heads.size() == 42, "there are 42 methods");
    Set<String> constants = new TreeSet<>();
    for (Field f : FiftyOneCards.class.getDeclaredFields()) {
      if (Modifier.isPublic(f.getModifiers())) constants.add(f.getType() + " " + f.getName());
      else want(Modifier.isPrivate(f.getModifiers()), f + " is private");
      if (Modifier.isStatic(f.getModifiers())) want(Modifier.isFinal(f.getModifiers()), f + " is final");
    }
    want(constants.equals(Set.of("int NONE", "int BAD", "int STATE", "int FULL", "long NO")), "constants " + constants);
    Constructor<?>[] all = FiftyOneCards.class.getDeclaredConstructors();
    want(all.length == 1 && Modifier.isPublic(all[0].getModifiers()) && all[0].getParameterCount() == 0, "one constructor");
    want(Modifier.isFinal(FiftyOneCards.class.getModifiers()), "the class is final");
    inside(names);
  }

  private static void inside(Set<String> names) {
    Class<?>[] inside = FiftyOneCards.class.getDeclaredClasses();
    want(inside.length <= 12, "at most 12 classes");
    List<Class<?>> every = new ArrayList<>(List.of(inside));
    every.add(FiftyOneCards.class);
    for (Class<?> c : every) {
      int fields = 0;
      for (Field f : c.getDeclaredFields()) if (!Modifier.isStatic(f.getModifiers())) fields++;
      want(fields <= 20, c + " has twenty fields at most");
      for (Method m : c.getDeclaredMethods()) {
        want(m.getParameterCount() <= 7, m + " takes seven at most");
        if (Modifier.isPrivate(m.getModifiers())) want(!names.contains(m.getName()), m + " has a name of its own");
      }
    }
    for (Class<?> c : inside) {
      want(Modifier.isStatic(c.getModifiers()), c + " is static");
      want(Modifier.isPrivate(c.getModifiers()), c + " is private");
    }
  }

  private static void source(String text) {
    String code = text.replaceAll("(?s)/\\*.*?\\*/", "").replaceAll("//[^\n]*", "");
    for (String word : List.of("throw", "throws", "try", "catch", "finally", "synchronized", "assert", "import",
        "package", "protected", "float", "double", "Random", "System.nanoTime", "System.currentTimeMillis",
        "Thread", "Exact", "instanceof", "var", "goto", "record", "native", "volatile", "transient")) {
      want(!Pattern.compile("\\b" + Pattern.quote(word) + "\\b").matcher(code).find(), "no '" + word + "'");
    }
    want(!code.contains("->") && !code.contains("::"), "no lambda, no method reference");
    want(code.chars().allMatch(c -> c >= 10 && c < 127), "plain signs alone");
    for (String s : List.of("while (true)", "for (;;)")) want(!code.contains(s), "no " + s);
    Matcher library = Pattern.compile("\\b([A-Z][a-z]\\w*)\\.(\\w+)\\(").matcher(code);
    while (library.find()) {
      want(Set.of("Math.max", "Math.min", "System.arraycopy").contains(library.group(1) + "." + library.group(2)),
          library.group() + " is of the library's part");
    }
    methodsAreShort(code);
  }

  private static void methodsAreShort(String code) {
    String[] lines = code.split("\n");
    int start = -1;
    String indent = "";
    for (int i = 0; i < lines.length; i++) {
      Matcher m = Pattern.compile("^( +)(public|private)[^=;]*\\) \\{$").matcher(lines[i]);
      if (m.find()) {
        start = i;
        indent = m.group(1);
      }
      if (start >= 0 && lines[i].equals(indent + "}")) {
        want(i - start < 60, "sixty lines at most: " + lines[start]);
        start = -1;
      }
    }
  }

  /** args: the source, the document. */
  public static void main(String[] args) throws Exception {
    source(Files.readString(Path.of(args[0])));
    face(Files.readString(Path.of(args[1])));
    System.out.println("FaceTest: " + wrong + " not so");
    if (wrong != 0) System.exit(1);
  }
}
