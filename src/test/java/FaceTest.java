import java.io.IOException;
import java.lang.reflect.Constructor;
import java.lang.reflect.Field;
import java.lang.reflect.Method;
import java.lang.reflect.Modifier;
import java.nio.file.Files;
import java.nio.file.Path;
import java.util.ArrayList;
import java.util.Arrays;
import java.util.List;
import java.util.Set;
import java.util.TreeSet;
import java.util.regex.Matcher;
import java.util.regex.Pattern;

/** The public face of the document, and the rules of LANGUAGE.md that can be seen without a run. */
public final class FaceTest {
  private static final String SOURCE = "src/main/java/ContentRows.java";
  private static final String[] FACE = {"write 1", "wipe 0", "fault 0", "lay 0", "add 5", "drop 1", "purge 0", "pack 0", "move 2", "undo 0",
      "rule 2", "would 4", "moved 2", "slot 2", "reach 2", "meet 2", "join 2", "key 2", "keys 1", "count 1"};
  private static int wrong = 0;

  public static void main(String[] args) throws IOException {
    face();
    constants();
    classes();
    source(Files.readString(Path.of(SOURCE)));
    System.out.println(wrong == 0 ? "the face is as told" : wrong + " things are not as told");
    if (wrong != 0) System.exit(1);
  }

  private static void must(boolean holds, String what) {
    if (holds) return;
    wrong++;
    System.out.println("not so: " + what);
  }

  private static void face() {
    int modifiers = ContentRows.class.getModifiers();
    must(Modifier.isPublic(modifiers) && Modifier.isFinal(modifiers), "ContentRows is public and final");
    Constructor<?>[] constructors = ContentRows.class.getDeclaredConstructors();
    must(constructors.length == 1 && constructors[0].getParameterCount() == 0 && Modifier.isPublic(constructors[0].getModifiers()),
        "one public constructor without parameters");
    Set<String> publics = new TreeSet<>();
    Set<String> publicNames = new TreeSet<>();
    for (Method m : ContentRows.class.getDeclaredMethods()) {
      if (Modifier.isPrivate(m.getModifiers())) continue;
      publics.add(m.getName() + " " + m.getParameterCount());
      publicNames.add(m.getName());
      must(Modifier.isPublic(m.getModifiers()) && !Modifier.isStatic(m.getModifiers()), m.getName() + " is public");
      must(m.getReturnType() == int.class && Arrays.stream(m.getParameterTypes()).allMatch(t -> t == int.class), m.getName() + " is of int");
    }
    must(publics.equals(new TreeSet<>(Arrays.asList(FACE))), "the public methods are those of the document: " + publics);
    for (Class<?> c : allClasses()) {
      for (Method m : c.getDeclaredMethods()) {
        boolean isOfFace = c == ContentRows.class && Modifier.isPublic(m.getModifiers());
        must(isOfFace || !publicNames.contains(m.getName()), c.getSimpleName() + "." + m.getName() + " has a name of its own");
        must(m.getParameterCount() <= 7, m.getName() + " has seven parameters at most");
      }
    }
  }

  private static void constants() {
    must(ContentRows.BAD == -1 && ContentRows.NO == -2 && ContentRows.FULL == -3 && ContentRows.NONE == -4, "the four constants");
    for (Field f : ContentRows.class.getDeclaredFields()) {
      boolean isTold = List.of("BAD", "NO", "FULL", "NONE").contains(f.getName());
      must(isTold ? Modifier.isPublic(f.getModifiers()) : Modifier.isPrivate(f.getModifiers()), f.getName() + " is as visible as it may be");
    }
    for (Class<?> c : allClasses()) {
      long fields = Arrays.stream(c.getDeclaredFields()).filter(f -> !Modifier.isStatic(f.getModifiers())).count();
      must(fields <= 20, c.getSimpleName() + " has some twenty fields at most");
      for (Field f : c.getDeclaredFields()) {
        must(!Modifier.isStatic(f.getModifiers()) || Modifier.isFinal(f.getModifiers()), f.getName() + ", if static, is final");
      }
    }
  }

  private static void classes() {
    must(allClasses().size() <= 12, "twelve classes at most");
    for (Class<?> c : ContentRows.class.getDeclaredClasses()) {
      must(Modifier.isStatic(c.getModifiers()) && !Modifier.isPublic(c.getModifiers()), c.getSimpleName() + " is static and not public");
      must(c.getDeclaredClasses().length == 0, c.getSimpleName() + " has no classes inside");
    }
  }

  private static List<Class<?>> allClasses() {
    List<Class<?>> all = new ArrayList<>(Arrays.asList(ContentRows.class.getDeclaredClasses()));
    all.add(ContentRows.class);
    return all;
  }

  private static void source(String source) {
    String code = source.replaceAll("(?s)/\\*.*?\\*/", " ").replaceAll("//[^\n]*", " ").replaceAll("'.'", "0").replaceAll("\"[^\"\n]*\"", "TEXT");
    String[] words = {"throw", "throws", "try", "catch", "finally", "synchronized", "assert", "volatile", "native", "transient", "package", "var",
        "Object", "Random", "Thread", "instanceof", "Exception", "equals", "hashCode", "toString"};
    for (String word : words) must(!Pattern.compile("\\b" + word + "\\b").matcher(code).find(), "no " + word);
    must(!code.contains("->") && !code.contains("::"), "no lambda, no method reference");
    must(!Pattern.compile("Exact\\b").matcher(code).find(), "none of the functions whose name ends in Exact");
    must(!Pattern.compile("\\bstatic\\s*\\{").matcher(code).find(), "no static initialiser block");
    Matcher imports = Pattern.compile("import\\s+([^;]+);").matcher(code);
    while (imports.find()) must(imports.group(1).equals("java.util.Arrays"), "no import of " + imports.group(1));
    Matcher library = Pattern.compile("\\b(System|Arrays|Math|Integer|Long)\\.(\\w+)").matcher(code);
    Set<String> known = Set.of("System.arraycopy", "Arrays.fill", "Math.max", "Math.min", "Integer.bitCount");
    while (library.find()) must(known.contains(library.group()), "no use of " + library.group());
    must(source.chars().allMatch(c -> c < 127), "ASCII alone");
    methodsAreShort(source);
  }

  private static void methodsAreShort(String source) {
    String[] lines = source.split("\n");
    for (int indent = 4; indent <= 8; indent += 4) {
      int begun = -1;
      for (int i = 0; i < lines.length; i++) {
        if (lines[i].matches(" {" + indent + "}\\S.*\\) \\{")) begun = i;
        if (lines[i].matches(" {" + indent + "}\\}") && begun >= 0) {
          must(i - begun < 60, "the method at line " + (begun + 1) + " is short");
          begun = -1;
        }
      }
    }
  }
}
