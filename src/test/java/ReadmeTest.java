import java.lang.reflect.Method;
import java.nio.file.Files;
import java.nio.file.Path;
import java.util.List;
import java.util.Map;
import java.util.regex.Matcher;
import java.util.regex.Pattern;

/** README.md: its rows of calls answer as they say, and all calls and all tests are on it. */
public final class ReadmeTest {
  private static final Check check = new Check();
  private static final Map<String, Integer> NAMES = Map.of("NONE", DoeRoe.NONE, "BAD", DoeRoe.BAD,
      "NO", DoeRoe.NO, "FULL", DoeRoe.FULL);
  private static final Pattern CALL =
      Pattern.compile("x\\.(\\w+)\\(([^)]*)\\); +// (-?\\d+|[A-Z]+): .*");
  private static final Pattern TEXT = Pattern.compile("type\\(\"(.*)\"\\);");

  public static void main(String[] args) throws Exception {
    List<String> lines = Files.readAllLines(Path.of("README.md"));
    runRows(lines);
    allCalls(String.join("\n", lines));
    allTests(String.join("\n", lines));
    check.end("ReadmeTest");
  }

  private static void runRows(List<String> lines) throws Exception {
    DoeRoe x = null;
    boolean java = false;
    int rows = 0;
    for (String line : lines) {
      Matcher call = CALL.matcher(line);
      Matcher text = TEXT.matcher(line);
      if (line.startsWith("```")) {
        java = line.equals("```java");
      } else if (java && line.equals("DoeRoe x = new DoeRoe();")) {
        x = new DoeRoe();
      } else if (java && text.matches()) {
        Check.type(x, text.group(1));
      } else if (java) {
        check.isTrue("a row of README.md: " + line, call.matches());
        check.due(line, answer(x, call.group(1), call.group(2)), number(call.group(3)));
        rows++;
      }
    }
    check.isTrue("rows were found", rows > 20);
  }

  private static int number(String told) {
    String name = told.replace("DoeRoe.", "");
    return NAMES.containsKey(name) ? NAMES.get(name) : Integer.parseInt(name);
  }

  private static long answer(DoeRoe x, String name, String told) throws Exception {
    String[] parts = told.isEmpty() ? new String[0] : told.split(", ");
    Object[] args = new Object[parts.length];
    for (int i = 0; i < parts.length; i++) {
      args[i] = number(parts[i]);
    }
    for (Method m : DoeRoe.class.getMethods()) {
      if (m.getName().equals(name) && m.getParameterCount() == args.length) {
        return ((Number) m.invoke(x, args)).longValue();
      }
    }
    throw new IllegalArgumentException("no call " + name);
  }

  private static void allCalls(String page) {
    for (Method m : DoeRoe.class.getMethods()) {
      if (m.getDeclaringClass() == DoeRoe.class) {
        check.isTrue("README.md has a row of " + m.getName(),
            page.contains("\n| `" + m.getName() + "("));
      }
    }
  }

  private static void allTests(String page) throws Exception {
    int tests = 0;
    try (var files = Files.list(Path.of("src/test/java"))) {
      for (Path file : (Iterable<Path>) files::iterator) {
        String name = file.getFileName().toString().replace(".java", "");
        if (name.endsWith("Test")) {
          tests++;
          check.isTrue("README.md has a row of " + name, page.contains("\n| " + name + " |"));
        }
      }
    }
    check.isTrue("tests were found", tests > 0);
  }
}
