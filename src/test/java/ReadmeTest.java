import java.lang.reflect.Method;
import java.lang.reflect.Modifier;
import java.nio.file.DirectoryStream;
import java.nio.file.Files;
import java.nio.file.Path;
import java.util.ArrayList;
import java.util.List;
import java.util.regex.Matcher;
import java.util.regex.Pattern;

/** What README.md says: its examples are made, its tables are held against the class and the tests. */
public final class ReadmeTest {
  private static final Check C = new Check("ReadmeTest");
  private static final Pattern CALL = Pattern.compile("x\\.(\\w+)\\(([^()]*)\\); +// (-?\\d+|[A-Z]+)\\b.*");
  private static final Pattern FEED = Pattern.compile("feed\\(x, \"([^\"]*)\"\\);");
  private static final Pattern CALL_ROW = Pattern.compile("\\| `(\\w+)\\(([^()]*)\\)` \\|.*");
  private static final Pattern NUMBER_ROW = Pattern.compile("\\| `?([A-Z]+)`? \\| (-\\d+) \\|.*");
  private static final String NEW_OBJECT = "PenniesAway x = new PenniesAway();";

  private static PenniesAway x = null;
  private static int calls = 0;

  public static void main(String[] args) throws Exception {
    List<String> lines = Files.readAllLines(Path.of("README.md"));
    examples(lines);
    callTables(lines);
    numbers(lines);
    text(lines);
    tests(lines);
    C.end();
  }

  /** The block that begins with a new object; a line that is not understood is wrong, so none goes unlooked at. */
  private static void examples(List<String> lines) throws Exception {
    int made = 0;
    for (int i = Math.max(0, lines.indexOf(NEW_OBJECT)); i < lines.size() && !lines.get(i).equals("```"); i++) {
      example(lines.get(i));
      made++;
    }
    C.holds("there are examples", made > 40);
    C.holds("no more than 512 calls", calls <= 512);
  }

  private static void example(String line) throws Exception {
    Matcher call = CALL.matcher(line);
    Matcher feed = FEED.matcher(line);
    if (line.equals(NEW_OBJECT)) {
      x = new PenniesAway();
    } else if (feed.matches()) {
      calls += (feed.group(1).length() + 7) / 8;
      Texts.feed(x, feed.group(1));
    } else if (call.matches()) {
      calls++;
      C.due(line, answer(call.group(1), arguments(call.group(2))), numberOf(call.group(3)));
    } else {
      C.holds("understood: " + line, false);
    }
  }

  private static int answer(String name, List<String> given) throws Exception {
    Method m = methodOf(name);
    Object[] values = new Object[given.size()];
    for (int i = 0; i < values.length; i++) {
      values[i] = Integer.parseInt(given.get(i));
    }
    return (Integer) m.invoke(x, values);
  }

  private static Method methodOf(String name) {
    for (Method m : PenniesAway.class.getDeclaredMethods()) {
      if (m.getName().equals(name)) {
        return m;
      }
    }
    throw new IllegalStateException("README.md names a call that there is not: " + name);
  }

  private static List<String> arguments(String between) {
    return between.isEmpty() ? List.of() : List.of(between.split(", "));
  }

  private static int numberOf(String told) throws Exception {
    return told.matches("-?\\d+") ? Integer.parseInt(told) : PenniesAway.class.getField(told).getInt(null);
  }

  /** Each call of the face has one row, with as many names between its brackets as it takes. */
  private static void callTables(List<String> lines) {
    List<String> told = new ArrayList<>();
    for (String line : lines) {
      Matcher row = CALL_ROW.matcher(line);
      if (row.matches()) {
        told.add(row.group(1));
        C.due("how many arguments: " + line, arguments(row.group(2)).size(), methodOf(row.group(1)).getParameterCount());
      }
    }
    for (Method m : PenniesAway.class.getDeclaredMethods()) {
      if (Modifier.isPublic(m.getModifiers())) {
        C.due("rows for " + m.getName(), told.stream().filter(m.getName()::equals).count(), 1);
      }
    }
  }

  private static void numbers(List<String> lines) throws Exception {
    List<String> findings = List.of("NULL", "PLACE", "KIND", "SIZE", "STORE");
    int rows = 0;
    for (String line : lines) {
      Matcher row = NUMBER_ROW.matcher(line);
      if (row.matches()) {
        rows++;
        int finding = findings.indexOf(row.group(1));
        C.due(line, Integer.parseInt(row.group(2)), finding < 0 ? numberOf(row.group(1)) : -1000011 - finding);
      }
    }
    C.due("rows of numbers", rows, 9);
  }

  /** The text that shows how texts look is one without a fault. */
  private static void text(List<String> lines) {
    int start = lines.indexOf("```text") + 1;
    StringBuilder text = new StringBuilder();
    for (int i = start; i < lines.size() && !lines.get(i).equals("```"); i++) {
      text.append(lines.get(i)).append('\n');
    }
    C.due("the text that is shown", Texts.read(new PenniesAway(), text.toString()), 6);
  }

  private static void tests(List<String> lines) throws Exception {
    int found = 0;
    try (DirectoryStream<Path> files = Files.newDirectoryStream(Path.of("src/test/java"), "*Test.java")) {
      for (Path file : files) {
        String name = file.getFileName().toString().replace(".java", "");
        C.holds("the list of tests has " + name, lines.stream().anyMatch(l -> l.startsWith("| `" + name + "` |")));
        found++;
      }
    }
    long told = lines.stream().filter(l -> l.matches("\\| `\\w+Test` \\|.*")).count();
    C.due("the list of tests has no other", told, found);
  }
}
