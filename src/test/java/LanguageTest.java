import java.nio.file.Files;
import java.nio.file.Path;
import java.util.List;
import java.util.regex.Matcher;
import java.util.regex.Pattern;

/** What of LANGUAGE.md can be seen in the source's lines. */
public final class LanguageTest {
  private static final Check check = new Check();
  private static final Path SOURCE = Path.of("src/main/java/DoeRoe.java");
  private static final String[] NEVER = {"\\bthrow\\b", "\\bthrows\\b", "\\btry\\b", "\\bcatch\\b",
      "\\bsynchronized\\b", "\\bassert\\b", "^import\\b", "^package\\b", "->", "::", "@",
      "\\bstatic \\{", "\\.hashCode\\(", "\\.toString\\(", "Exact\\(", "\\bSystem\\.(?!arraycopy)",
      "\\bObject\\b", "\\bprotected\\b"};

  public static void main(String[] args) throws Exception {
    List<String> lines = Files.readAllLines(SOURCE);
    int start = -1;
    for (int i = 0; i < lines.size(); i++) {
      String line = lines.get(i);
      String code = line.replaceAll("//.*|^\\s*/?\\*.*", "");
      for (String never : NEVER) {
        Matcher m = Pattern.compile(never).matcher(code);
        check.isTrue("line " + (i + 1) + " has no " + never, !m.find());
      }
      check.isTrue("line " + (i + 1) + " is plain", line.chars().allMatch(c -> c < 127));
      check.isTrue("line " + (i + 1) + " has 100 signs at most", line.length() <= 100);
      if (code.matches("    ?(  )?[A-Za-z].*\\) \\{")) {
        start = i;
      } else if (code.matches("    ?(  )?\\}") && start >= 0) {
        check.isTrue("the method at line " + (start + 1) + " is short", i - start <= 60);
      }
    }
    check.end("LanguageTest");
  }
}
