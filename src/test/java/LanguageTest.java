import java.io.IOException;
import java.lang.reflect.Field;
import java.lang.reflect.Method;
import java.lang.reflect.Modifier;
import java.nio.charset.StandardCharsets;
import java.nio.file.Files;
import java.nio.file.Path;
import java.util.ArrayList;
import java.util.List;
import java.util.Map;
import java.util.TreeMap;
import java.util.TreeSet;
import java.util.regex.Matcher;
import java.util.regex.Pattern;

/** What of ../shared/LANGUAGE.md can be read off the source and the class; run from the project's folder. */
final class LanguageTest {
  private static final Path SOURCE = Path.of("src/main/java/QuietYards.java");

  public static void main(String[] args) throws IOException {
    String source = Files.readString(SOURCE, StandardCharsets.UTF_8);
    Due.holds("signs 1 to 127 alone", source.chars().allMatch(c -> c > 0 && c < 128));
    String code = withoutTextsAndComments(source);
    forbiddenWords(code);
    imports(code);
    library(code);
    sizes(code);
    for (Class<?> one : classes()) shape(one);
    depthOfCalls(code);
    Due.close("LanguageTest");
  }

  private static String withoutTextsAndComments(String source) {
    return source.replaceAll("(?s)/\\*.*?\\*/", "").replaceAll("//[^\n]*", "")
        .replaceAll("\"(\\\\.|[^\"\\\\])*\"", "\"\"").replaceAll("'(\\\\.|[^'\\\\])'", "'x'");
  }

  private static void none(String what, String code, String pattern) {
    Matcher matcher = Pattern.compile(pattern).matcher(code);
    Due.same(what, matcher.find() ? "there is " + matcher.group() : "none", "none");
  }

  private static void forbiddenWords(String code) {
    none("rule 1: package line", code, "(?m)^package\\b");
    none("rule 1: protected members", code, "\\bprotected\\b");
    none("rule 2: lambdas and references", code, "->|::");
    none("rule 6: exceptions and the rest", code,
        "\\b(throw|throws|try|catch|finally|synchronized|assert|yield|volatile|transient|native|strictfp)\\b");
    none("rule 6: own equals, hashCode, toString", code, "\\b(equals|hashCode|toString)\\s*\\(");
    none("rule 2: inner classes", code, "(?m)^ +(?! )(?!private static |static )[a-z ]*\\b(class|enum|record|interface) \\w+");
    none("rule 4: Exact", code, "Exact\\s*\\(");
    none("rule 5: static fields that are not final", code, "\\bstatic (?!final\\b)[\\w\\[\\]]+ \\w+\\s*[=;,]");
    none("rule 5: static initialiser", code, "\\bstatic\\s*\\{");
    none("rule 9: loops without an end of their own", code, "while\\s*\\(true\\)|for\\s*\\(\\s*;|;\\s*;");
    none("rule 13: the machine around", code, "\\b(Thread|Runtime|Random|Object|Class|Scanner|File)\\b");
    none("doubles", code, "\\b(double|float)\\b");
  }

  private static void imports(String code) {
    none("imports but java.util.Arrays", code, "(?m)^import (?!java\\.util\\.Arrays;)");
  }

  private static void library(String code) {
    none("System but arraycopy", code, "\\bSystem\\.(?!arraycopy\\b)\\w+");
    none("Arrays but fill and copies", code, "\\bArrays\\.(?!fill\\b|copyOf\\b|copyOfRange\\b)\\w+");
    none("Math but the plain ones", code, "\\bMath\\.(?!min\\b|max\\b|abs\\b|floorDiv\\b|floorMod\\b)\\w+");
  }

  private static void sizes(String code) {
    int classes = 0;
    Matcher matcher = Pattern.compile("\\b(class|enum|record|interface) \\w+").matcher(code);
    while (matcher.find()) classes++;
    Due.holds("rule 11: some twelve classes at most", classes <= 12);
    List<String> lines = code.lines().toList();
    int opened = -1;
    for (int i = 0; i < lines.size(); i++) {
      String line = lines.get(i);
      if (line.matches(" {2,4}(public |private |static |final )*[\\w\\[\\]]+ ?\\w*\\(.*\\) \\{")) {
        opened = i;
        String inside = line.substring(line.indexOf('(') + 1, line.lastIndexOf(')'));
        Due.holds("rule 11: seven parameters at most: " + line, inside.split(",").length <= 7);
      }
      if (opened >= 0 && line.matches(" {2,4}\\}")) {
        Due.holds("rule 11: short: " + lines.get(opened), i - opened <= 60);
        opened = -1;
      }
      Due.holds("a line's length: " + line, line.length() <= 120);
    }
  }

  // ---- the class as it is compiled

  private static List<Class<?>> classes() {
    List<Class<?>> all = new ArrayList<>(List.of(QuietYards.class));
    all.addAll(List.of(QuietYards.class.getDeclaredClasses()));
    return all;
  }

  private static void shape(Class<?> one) {
    Due.same("rule 2: classes inside " + one.getSimpleName(), one.getDeclaredClasses().length,
        one == QuietYards.class ? classes().size() - 1 : 0);
    int fields = 0;
    for (Field field : one.getDeclaredFields()) {
      boolean constant = Modifier.isStatic(field.getModifiers());
      Due.holds("rule 5: " + field, !constant || Modifier.isFinal(field.getModifiers()) && mayBeConstant(field.getType()));
      Due.holds("rule 3: " + field, mayBeHeld(field.getType()));
      if (!constant) fields++;
    }
    Due.holds("rule 11: some twenty fields at most in " + one.getSimpleName(), fields <= 20);
    for (Method method : one.getDeclaredMethods()) {
      Due.holds("rule 11: seven parameters at most: " + method, method.getParameterCount() <= 7);
      for (Class<?> type : method.getParameterTypes()) Due.holds("rule 3: " + method, mayBeHeld(type));
      Due.holds("rule 3: " + method, method.getReturnType() == void.class || mayBeHeld(method.getReturnType()));
    }
  }

  private static boolean mayBeConstant(Class<?> type) {
    Class<?> part = type.isArray() ? type.getComponentType() : type;
    if (type.isArray()) return List.of(int.class, long.class, char.class, byte.class).contains(part);
    return List.of(int.class, long.class, boolean.class, char.class, String.class).contains(part);
  }

  /** Numbers, texts and own classes, rows of these, and rows of rows of numbers. */
  private static boolean mayBeHeld(Class<?> type) {
    if (!type.isArray()) return type.isPrimitive() || type == String.class || classes().contains(type);
    Class<?> part = type.getComponentType();
    if (part.isArray()) return part.getComponentType().isPrimitive();
    return part.isPrimitive() || classes().contains(part);
  }

  // ---- calls by their names: two methods of one name count as one, which can only make it deeper

  private static void depthOfCalls(String code) {
    Map<String, TreeSet<String>> calls = new TreeMap<>();
    String open = null;
    for (String line : code.lines().toList()) {
      Matcher head = Pattern.compile(" {2,4}(?:public |private |static |final )*[\\w\\[\\]]+ (\\w+)\\(.*\\) \\{").matcher(line);
      if (head.matches()) {
        open = head.group(1);
        calls.computeIfAbsent(open, name -> new TreeSet<>());
      } else if (open != null) {
        Matcher call = Pattern.compile("\\b(\\w+)\\(").matcher(line);
        while (call.find()) calls.get(open).add(call.group(1));
      }
      if (line.matches(" {2,4}\\}")) open = null;
    }
    Due.holds("calls are found", calls.get("hill").contains("read") && calls.get("spells").contains("charAt"));
    for (String name : calls.keySet()) {
      int depth = depth(calls, name, 1);
      Due.holds("rules 8, 11: " + name + " goes " + depth + " deep", depth <= 8);
    }
  }

  private static int depth(Map<String, TreeSet<String>> calls, String name, int above) {
    // a name that calls itself would go on for ever
    if (above > 20 || !calls.containsKey(name)) return above;
    int deepest = above;
    for (String called : calls.get(name)) deepest = Math.max(deepest, depth(calls, called, above + 1));
    return deepest;
  }
}
