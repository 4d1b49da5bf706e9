import java.io.IOException;
import java.lang.reflect.Method;
import java.nio.file.Files;
import java.nio.file.Path;
import java.util.Arrays;
import java.util.List;
import java.util.Map;
import java.util.TreeMap;
import java.util.TreeSet;
import java.util.regex.Matcher;
import java.util.regex.Pattern;

/** README.md: its example answers as it says, and each call stands in it as the document has it. */
public final class ReadmeTest {
  private static final Map<String, Integer> BELOW_ZERO = Map.of("BAD", -1, "NO", -2, "FULL", -3, "NONE", -4);
  /** The calls of the document, each with what its promise can tell below 0, in the order told. */
  private static final String[][] CALLS = {
      {"write(letter)", "BAD FULL"}, {"wipe()", ""}, {"fault()", "NONE"}, {"lay()", "NO"},
      {"add(rank, head, from, to, answer)", "BAD NO FULL"}, {"drop(r)", "BAD"}, {"purge()", ""}, {"pack()", ""},
      {"move(from, to)", "BAD NO"}, {"undo()", "NO"}, {"rule(r, what)", "BAD"},
      {"would(rank, head, from, to)", "BAD NO FULL"}, {"moved(i, what)", "BAD NONE"},
      {"slot(s, what)", "BAD NONE"}, {"reach(s, which)", "BAD NO NONE"}, {"meet(a, b)", "BAD NO"}, {"join(a, b)", "BAD NO"},
      {"key(k, what)", "BAD NONE"}, {"keys(what)", "BAD"}, {"count(what)", "BAD"}};
  private static int wrong = 0;

  public static void main(String[] args) throws Exception {
    String page = Files.readString(Path.of("README.md"));
    example(page);
    constants(page);
    calls(page);
    tests(page);
    System.out.println(wrong == 0 ? "README.md is as the class" : wrong + " things in README.md are not so");
    if (wrong != 0) System.exit(1);
  }

  private static void must(boolean holds, String what) {
    if (holds) return;
    wrong++;
    System.out.println("not so: " + what);
  }

  // ---- the example

  private static void example(String page) throws ReflectiveOperationException {
    Matcher block = Pattern.compile("(?s)```java\n(.*?)```").matcher(page);
    must(block.find(), "there is an example");
    ContentRows x = null;
    int told = 0;
    for (String line : block.group(1).split("\n")) {
      Matcher call = Pattern.compile("x\\.(\\w+)\\((.*?)\\);\\s+// (-?\\w+): .*").matcher(line);
      Matcher letters = Pattern.compile("for \\(char c : \"(.*)\"\\.toCharArray\\(\\)\\) x\\.write\\(c\\);").matcher(line);
      if (line.equals("ContentRows x = new ContentRows();")) {
        x = new ContentRows();
      } else if (letters.matches()) {
        for (char c : letters.group(1).toCharArray()) x.write(c);
      } else if (call.matches()) {
        int got = answer(x, call.group(1), numbers(call.group(2)));
        must(got == number(call.group(3)), line + " .. answered " + got);
        told++;
      } else {
        must(false, "a line of the example that can be run: " + line);
      }
    }
    must(told > 10, "the example tells answers");
  }

  private static int[] numbers(String list) {
    if (list.isEmpty()) return new int[0];
    return Arrays.stream(list.split(", ")).mapToInt(n -> n.matches("'.'") ? n.charAt(1) : Integer.parseInt(n)).toArray();
  }

  private static int number(String word) {
    return BELOW_ZERO.containsKey(word) ? BELOW_ZERO.get(word) : Integer.parseInt(word);
  }

  private static int answer(ContentRows x, String name, int... numbers) throws ReflectiveOperationException {
    Class<?>[] types = new Class<?>[numbers.length];
    Arrays.fill(types, int.class);
    Method method = ContentRows.class.getMethod(name, types);
    return (Integer) method.invoke(x, Arrays.stream(numbers).boxed().toArray());
  }

  // ---- the tables

  private static void constants(String page) {
    for (Map.Entry<String, Integer> word : BELOW_ZERO.entrySet()) {
      must(page.contains("| `" + word.getKey() + "` | " + word.getValue() + " | "), "a row tells " + word);
    }
  }

  private static void calls(String page) throws ReflectiveOperationException {
    Map<String, String[]> rows = new TreeMap<>();
    for (String line : page.split("\n")) {
      Matcher row = Pattern.compile("\\| `(\\w+\\(.*?\\))` \\| (.*?) \\| (.*?) ?\\|").matcher(line);
      if (row.matches()) must(rows.put(row.group(1), new String[] {row.group(2), row.group(3)}) == null, row.group(1) + " has one row");
    }
    for (String[] call : CALLS) {
      String[] row = rows.remove(call[0]);
      must(row != null, call[0] + " has a row");
      if (row == null) continue;
      must(wordsBelowZero(row[1]).equals(call[1]), call[0] + " can tell '" + call[1] + "', not '" + wordsBelowZero(row[1]) + "'");
      if (call[0].endsWith("what)") || call[0].endsWith("which)")) whats(call[0].replaceAll("\\(.*", ""), row[0]);
    }
    must(rows.isEmpty(), "no rows of calls that there are not: " + rows.keySet());
    must(new TreeSet<>(methods()).size() == CALLS.length, "the calls are all those of the class");
  }

  private static List<String> methods() {
    return Arrays.stream(ContentRows.class.getDeclaredMethods()).filter(m -> java.lang.reflect.Modifier.isPublic(m.getModifiers()))
        .map(Method::getName).toList();
  }

  private static String wordsBelowZero(String cell) {
    StringBuilder words = new StringBuilder();
    Matcher word = Pattern.compile("\\b(BAD|NO|FULL|NONE)\\b").matcher(cell);
    while (word.find()) words.append(words.length() == 0 ? "" : " ").append(word.group());
    return words.toString();
  }

  /** The numbers that a row tells are those that the call takes: 0 to the highest, and no more. */
  private static void whats(String name, String cell) throws ReflectiveOperationException {
    TreeSet<Integer> told = new TreeSet<>();
    Matcher number = Pattern.compile("(?<!-)\\b(\\d+):").matcher(cell);
    while (number.find()) told.add(Integer.parseInt(number.group(1)));
    for (int what = -1; what < 12; what++) {
      boolean takes = askedOfNew(name, what) != ContentRows.BAD;
      must(takes == told.contains(what), name + ": what = " + what + " is " + (takes ? "taken but not told" : "told but not taken"));
    }
  }

  private static int askedOfNew(String name, int what) throws ReflectiveOperationException {
    ContentRows x = new ContentRows();
    return name.equals("keys") || name.equals("count") ? answer(x, name, what) : answer(x, name, 0, what);
  }

  private static void tests(String page) throws IOException {
    must(page.contains("    .ci/run\n"), "how to run the tests");
    try (var files = Files.list(Path.of("src/test/java"))) {
      files.map(f -> f.getFileName().toString().replace(".java", ""))
          .forEach(name -> must(page.contains("- `" + name + "`: "), "what " + name + " tests"));
    }
  }
}
