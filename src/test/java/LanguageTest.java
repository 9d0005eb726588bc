import java.io.IOException;
import java.nio.charset.StandardCharsets;
import java.nio.file.Files;
import java.nio.file.Path;
import java.util.List;
import java.util.regex.Matcher;
import java.util.regex.Pattern;

/** What of ../shared/LANGUAGE.md can be read off the source; run from the project's folder. */
final class LanguageTest {
  private static final Path SOURCE = Path.of("src/main/java/QuietYards.java");

  public static void main(String[] args) throws IOException {
    String source = Files.readString(SOURCE, StandardCharsets.UTF_8);
    Due.holds("signs 1 to 127 alone", source.chars().allMatch(c -> c > 0 && c < 128));
    String code = withoutTextsAndComments(source);
    forbiddenWords(code);
    imports(code);
    library(code);
    sizes(code);
    Due.close("LanguageTest");
  }

  private static String withoutTextsAndComments(String source) {
    return source.replaceAll("(?s)/\\*.*?\\*/", "").replaceAll("//[^\n]*", "")
        .replaceAll("\"(\\\\.|[^\"\\\\])*\"", "\"\"").replaceAll("'(\\\\.|[^'\\\\])'", "'x'");
  }

  private static void none(String what, String code, String pattern) {
    Matcher matcher = Pattern.compile(pattern).matcher(code);
    Due.same(what, matcher.find() ? "there is " + matcher.group() : "none", "none");
  }

  private static void forbiddenWords(String code) {
    none("rule 1: package line", code, "(?m)^package\\b");
    none("rule 1: protected members", code, "\\bprotected\\b");
    none("rule 2: lambdas and references", code, "->|::");
    none("rule 6: exceptions and the rest", code,
        "\\b(throw|throws|try|catch|finally|synchronized|assert|yield|volatile|transient|native|strictfp)\\b");
    none("rule 6: own equals, hashCode, toString", code, "\\b(equals|hashCode|toString)\\s*\\(");
    none("rule 2: inner classes", code, "(?m)^ +(?! )(?!private static |static )[a-z ]*\\b(class|enum|record|interface) \\w+");
    none("rule 4: Exact", code, "Exact\\s*\\(");
    none("rule 5: static fields that are not final", code, "\\bstatic (?!final\\b)[\\w\\[\\]]+ \\w+\\s*[=;,]");
    none("rule 5: static initialiser", code, "\\bstatic\\s*\\{");
    none("rule 9: loops without an end of their own", code, "while\\s*\\(true\\)|for\\s*\\(\\s*;|;\\s*;");
    none("rule 13: the machine around", code, "\\b(Thread|Runtime|Random|Object|Class|Scanner|File)\\b");
    none("doubles", code, "\\b(double|float)\\b");
  }

  private static void imports(String code) {
    none("imports but java.util.Arrays", code, "(?m)^import (?!java\\.util\\.Arrays;)");
  }

  private static void library(String code) {
    none("System but arraycopy", code, "\\bSystem\\.(?!arraycopy\\b)\\w+");
    none("Arrays but fill and copies", code, "\\bArrays\\.(?!fill\\b|copyOf\\b|copyOfRange\\b)\\w+");
    none("Math but the plain ones", code, "\\bMath\\.(?!min\\b|max\\b|abs\\b|floorDiv\\b|floorMod\\b)\\w+");
  }

  private static void sizes(String code) {
    int classes = 0;
    Matcher matcher = Pattern.compile("\\b(class|enum|record|interface) \\w+").matcher(code);
    while (matcher.find()) classes++;
    Due.holds("rule 11: some twelve classes at most", classes <= 12);
    List<String> lines = code.lines().toList();
    int opened = -1;
    for (int i = 0; i < lines.size(); i++) {
      String line = lines.get(i);
      if (line.matches(" {2,4}(public |private |static |final )*[\\w\\[\\]]+ ?\\w*\\(.*\\) \\{")) {
        opened = i;
        String inside = line.substring(line.indexOf('(') + 1, line.lastIndexOf(')'));
        Due.holds("rule 11: seven parameters at most: " + line, inside.split(",").length <= 7);
      }
      if (opened >= 0 && line.matches(" {2,4}\\}")) {
        Due.holds("rule 11: short: " + lines.get(opened), i - opened <= 60);
        opened = -1;
      }
      Due.holds("a line's length: " + line, line.length() <= 120);
    }
  }
}
