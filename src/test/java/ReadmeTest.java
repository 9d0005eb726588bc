import java.io.File;
import java.io.IOException;
import java.lang.reflect.Field;
import java.lang.reflect.Method;
import java.lang.reflect.Modifier;
import java.nio.charset.StandardCharsets;
import java.nio.file.Files;
import java.nio.file.Path;
import java.util.regex.Matcher;
import java.util.regex.Pattern;

/** README.md: its example answers as the class does, and it leaves out no call, constant or test; run from the project's folder. */
final class ReadmeTest {
  private static final Pattern TYPED =
      Pattern.compile("for \\(char c : \"([^\"]*)\"\\.toCharArray\\(\\)\\) yards\\.type\\(c, 1\\);");
  private static final Pattern CALL = Pattern.compile("yards\\.(\\w+)\\(([^()]*)\\); *// (-?\\d+|[A-Z]+)(: .*)?");

  public static void main(String[] args) throws IOException, ReflectiveOperationException {
    String page = Files.readString(Path.of("README.md"), StandardCharsets.UTF_8);
    Matcher block = Pattern.compile("(?s)```java\n(.*?)```").matcher(page);
    int examples = 0;
    while (block.find()) {
      examples++;
      example(block.group(1));
    }
    Due.same("examples", examples, 1);
    namesAllOfTheFace(page);
    namesAllTests(page);
    Due.close("ReadmeTest");
  }

  private static void example(String code) throws ReflectiveOperationException {
    QuietYards yards = new QuietYards();
    int calls = 0;
    for (String line : code.lines().toList()) {
      Matcher typed = TYPED.matcher(line);
      Matcher call = CALL.matcher(line);
      if (typed.matches()) {
        for (char c : typed.group(1).toCharArray()) yards.type(c, 1);
        calls += typed.group(1).length();
      } else if (call.matches()) {
        Due.same(line, answer(yards, call.group(1), call.group(2)), number(call.group(3)));
        calls++;
      } else {
        Due.same("a line of the example", line, "QuietYards yards = new QuietYards();");
      }
    }
    Due.holds("an object is used for at most 512 calls", calls <= 512);
  }

  private static long answer(QuietYards yards, String name, String numbers) throws ReflectiveOperationException {
    String[] told = numbers.isEmpty() ? new String[0] : numbers.split(", ");
    for (Method method : QuietYards.class.getMethods()) {
      Class<?>[] kinds = method.getParameterTypes();
      if (!method.getName().equals(name) || kinds.length != told.length) continue;
      Object[] given = new Object[told.length];
      for (int i = 0; i < told.length; i++) {
        long value = Long.decode(told[i].replace("L", ""));
        if (kinds[i] == long.class) given[i] = value;
        else given[i] = Math.toIntExact(value);
      }
      return ((Number) method.invoke(yards, given)).longValue();
    }
    throw new NoSuchMethodException(name);
  }

  private static long number(String told) throws ReflectiveOperationException {
    return told.matches("[A-Z]+") ? QuietYards.class.getField(told).getInt(null) : Long.parseLong(told);
  }

  private static void namesAllOfTheFace(String page) throws ReflectiveOperationException {
    for (Method method : QuietYards.class.getDeclaredMethods()) {
      if (!Modifier.isPublic(method.getModifiers())) continue;
      String numbers = method.getParameterCount() == 0 ? "\\)" : "\\w+(, \\w+){" + (method.getParameterCount() - 1) + "}\\)";
      Due.holds("a row for " + method, Pattern.compile("\\| `" + method.getName() + "\\(" + numbers + "` \\|").matcher(page).find());
    }
    for (Field field : QuietYards.class.getFields()) {
      String told = "`" + field.getName() + "`( \\| | \\()" + field.getInt(null) + "\\b";
      Due.holds("the number of " + field.getName(), Pattern.compile(told).matcher(page).find());
    }
  }

  private static void namesAllTests(String page) {
    String[] files = new File("src/test/java").list();
    Due.holds("the folder of tests", files != null);
    for (String file : files == null ? new String[0] : files) {
      if (file.endsWith("Test.java")) Due.holds("README names " + file, page.contains("`" + file.replace(".java", "") + "`"));
    }
  }
}
