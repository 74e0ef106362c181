import java.lang.reflect.Constructor;
import java.lang.reflect.Field;
import java.lang.reflect.Method;
import java.lang.reflect.Modifier;
import java.nio.file.Files;
import java.nio.file.Path;
import java.util.Arrays;
import java.util.List;
import java.util.Set;
import java.util.TreeSet;
import java.util.regex.Matcher;
import java.util.regex.Pattern;

/** The face of the class, and what LANGUAGE.md forbids that a look at the text can tell. */
public final class LanguageTest {
  private static final Check C = new Check("LanguageTest");
  private static final List<String> FACE = List.of(
      "row(int,int,int)", "set(int,int,int)", "copy(int,int,int,int,int)", "drop(int)", "feed(long,int)", "realm()",
      "fault()", "pass(int,int)", "send(int)", "sendAll(int,int,int)", "days(int)", "flood(int)", "undo()",
      "coin(int,int)", "far(int,int)", "late()", "mustGo(int)", "save(int)", "tour(int,int)", "mint(int)",
      "sounds(int,int)", "ear(int,int,int,int,int)", "image(int)", "restore(int)", "kind(int)", "as(int,int)",
      "ask(int,int)", "trace(int)", "count(int)", "status()");
  private static final String[] FORBIDDEN = {
      "\\bthrow\\b", "\\bthrows\\b", "\\btry\\b", "\\bcatch\\b", "\\bsynchronized\\b", "\\bassert\\b", "->", "::",
      "\\bprotected\\b", "\\bdouble\\b", "\\bfloat\\b", "Exact\\b", "\\bstatic\\s*\\{", "\\bpackage\\b", "@",
      "System\\.(?!arraycopy)", "Math\\.(?!max|min)", "Integer\\.(?!bitCount)", "Arrays\\.(?!fill)", "\\bObject\\b",
      "import (?!java\\.util\\.Arrays;)", "while \\(true\\)", "for \\(;;"};

  public static void main(String[] args) throws Exception {
    face();
    String text = Files.readString(Path.of(args.length > 0 ? args[0] : "src/main/java/PenniesAway.java"));
    C.holds("the text is ASCII", text.chars().allMatch(c -> c < 127));
    words(bare(text));
    lengths(text);
    C.end();
  }

  private static void face() {
    Class<?> face = PenniesAway.class;
    C.holds("public final", Modifier.isPublic(face.getModifiers()) && Modifier.isFinal(face.getModifiers()));
    Set<String> methods = new TreeSet<>();
    for (Method m : face.getDeclaredMethods()) {
      if (!Modifier.isPrivate(m.getModifiers())) {
        methods.add(signature(m));
        C.holds(m + " answers an int", m.getReturnType() == int.class && !Modifier.isStatic(m.getModifiers()));
      }
    }
    C.holds("methods are the document's: " + methods, methods.equals(new TreeSet<>(FACE)));
    Set<String> constants = new TreeSet<>();
    for (Field f : face.getDeclaredFields()) {
      if (!Modifier.isPrivate(f.getModifiers())) {
        constants.add(f.getName());
      }
    }
    C.holds("constants: " + constants, constants.equals(Set.of("NONE", "BAD", "STATE", "FULL")));
    Constructor<?>[] makers = face.getDeclaredConstructors();
    C.holds("one constructor", makers.length == 1 && makers[0].getParameterCount() == 0);
    inside(face);
  }

  private static void inside(Class<?> face) {
    Class<?>[] classes = face.getDeclaredClasses();
    C.holds("at most twelve classes", classes.length <= 11);
    Set<String> names = new TreeSet<>();
    for (String s : FACE) {
      names.add(s.substring(0, s.indexOf('(')));
    }
    for (Class<?> c : classes) {
      C.holds(c + " is static, not public", Modifier.isStatic(c.getModifiers()) && !Modifier.isPublic(c.getModifiers()));
      for (Method m : c.getDeclaredMethods()) {
        C.holds(m + " bears no public name", !names.contains(m.getName()));
        C.holds(m + " takes seven at most", m.getParameterCount() <= 7);
      }
      long fields = Arrays.stream(c.getDeclaredFields()).filter(f -> !Modifier.isStatic(f.getModifiers())).count();
      C.holds(c + " has twenty fields at most", fields <= 20);
    }
  }

  private static String signature(Method m) {
    StringBuilder s = new StringBuilder(m.getName()).append('(');
    for (Class<?> p : m.getParameterTypes()) {
      s.append(s.charAt(s.length() - 1) == '(' ? "" : ",").append(p.getName());
    }
    return s.append(')').toString();
  }

  private static String bare(String text) {
    return text.replaceAll("(?s)/\\*.*?\\*/", "").replaceAll("//[^\n]*", "").replaceAll("\"[^\"]*\"", "\"\"");
  }

  private static void words(String text) {
    for (String f : FORBIDDEN) {
      Matcher m = Pattern.compile(f).matcher(text);
      C.holds("no " + f, !m.find());
    }
  }

  private static void lengths(String text) {
    String[] lines = text.split("\n");
    int start = -1;
    String end = "";
    for (int i = 0; i < lines.length; i++) {
      Matcher m = Pattern.compile("^( {4}| {8})(?! )[^=;*/]*\\) \\{$").matcher(lines[i]);
      if (start < 0 && m.matches()) {
        start = i;
        end = m.group(1) + "}";
      } else if (start >= 0 && lines[i].equals(end)) {
        C.holds("sixty lines at most: " + lines[start], i - start < 60);
        start = -1;
      }
    }
    C.holds("every method ends", start < 0);
  }
}
