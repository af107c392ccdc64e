import java.lang.reflect.Constructor;
import java.lang.reflect.Field;
import java.lang.reflect.Member;
import java.lang.reflect.Method;
import java.lang.reflect.Modifier;
import java.nio.file.Files;
import java.nio.file.Path;
import java.util.List;
import java.util.Set;
import java.util.TreeSet;
import java.util.regex.Matcher;
import java.util.regex.Pattern;

/** The public face, as the document has it, and that no number makes a call throw. */
public final class FaceTest {
  private static final Check check = new Check();
  private static final Pattern METHOD = Pattern.compile(" +public ((?:int|long) \\w+)\\((.*)\\);");
  private static final Pattern PROMISE = Pattern.compile("## Promise (\\d+): .*");
  private static final Pattern PROMISED = Pattern.compile("`((?:int|long) \\w+)\\((.*?)\\)`: .*");
  private static final Path DOCUMENT = Path.of("../shared/DOC.md");
  private static final String[] FACE = {"int book(int)", "int fiction(int,int,int,int)",
      "int court(int,int)", "int type(int)", "int clear()", "int read()", "int suit()",
      "int plead(int)", "int deny(int)", "int undo()", "int of(int,int)", "int now(int)",
      "int may()", "int hear()", "int least(int,int,int)", "int ever()", "int contradict()",
      "int giveUp()", "int denial(int)", "int fees(int)", "int rule(int)", "int note(int,int,int)",
      "int heard(int,int)", "int forget(int)", "int is(int)", "int look(int)", "int truth(int)",
      "int odds(int,int)", "int terms(int,int)", "long part(int)", "int image(int)",
      "int from(int)", "int status(int)", "int count(int)", "long digest()"};
  private static final int[] EDGES = {Integer.MIN_VALUE, -1073741824, -65536, -11, -2, -1, 0, 1, 2,
      3, 4, 5, 6, 7, 8, 9, 20, 21, 31, 32, 60, 61, 63, 64, 127, 128, 255, 256, 999999, 1000000,
      1073741824, Integer.MAX_VALUE};

  public static void main(String[] args) throws Exception {
    constants();
    document();
    members();
    nested();
    everyEdge();
    check.end("FaceTest");
  }

  private static void constants() {
    check.due("NONE", DoeRoe.NONE, -1);
    check.due("BAD", DoeRoe.BAD, -2);
    check.due("NO", DoeRoe.NO, -3);
    check.due("FULL", DoeRoe.FULL, -4);
  }

  private static boolean isPrivate(Member m) {
    return Modifier.isPrivate(m.getModifiers());
  }

  private static String types(String parameters) {
    return parameters.replaceAll("(int|long) \\w+", "$1").replace(", ", ",");
  }

  /** The methods between the document's "public final class DoeRoe {" and its end. */
  private static Set<String> told(List<String> document) {
    Set<String> methods = new TreeSet<>();
    boolean face = false;
    for (String line : document) {
      Matcher m = METHOD.matcher(line);
      face = line.equals("public final class DoeRoe {") || face && !line.equals("}");
      if (face && m.matches()) {
        methods.add(m.group(1) + "(" + types(m.group(2)) + ")");
      }
    }
    return methods;
  }

  /** Each promise of a call stands by the call as the face has it. */
  private static void promises(List<String> document, Set<String> face) {
    int number = 0;
    for (String line : document) {
      Matcher heading = PROMISE.matcher(line);
      Matcher call = PROMISED.matcher(line);
      if (heading.matches()) {
        number++;
        check.due("the number of " + line, Integer.parseInt(heading.group(1)), number);
      } else if (call.matches()) {
        check.isTrue("in the face: " + line,
            face.contains(call.group(1) + "(" + types(call.group(2)) + ")"));
      }
    }
    check.due("promises", number, 36);
  }

  private static void document() throws Exception {
    // The face stands above, too, so that it is looked at where only ../shared/tests can be seen.
    if (Files.exists(DOCUMENT)) {
      List<String> document = Files.readAllLines(DOCUMENT);
      Set<String> face = told(document);
      check.isTrue("the document's face is " + face, face.equals(Set.of(FACE)));
      promises(document, face);
    }
  }

  private static void members() {
    check.isTrue("a public final class", Modifier.isPublic(DoeRoe.class.getModifiers())
        && Modifier.isFinal(DoeRoe.class.getModifiers()));
    Set<String> want = new TreeSet<>(Set.of(FACE));
    Set<String> found = new TreeSet<>();
    Set<String> names = new TreeSet<>();
    for (Method m : DoeRoe.class.getDeclaredMethods()) {
      if (!isPrivate(m)) {
        String told = m.toGenericString().replace("public ", "").replace("DoeRoe.", "");
        found.add(told);
        names.add(m.getName());
      }
    }
    check.isTrue("the methods are " + found, found.equals(want));
    for (Method m : DoeRoe.class.getDeclaredMethods()) {
      check.isTrue("private " + m, !isPrivate(m) || !names.contains(m.getName()));
    }
    Set<String> fields = new TreeSet<>();
    for (Field f : DoeRoe.class.getDeclaredFields()) {
      if (!isPrivate(f)) {
        fields.add(f.getName());
      }
      check.isTrue("static fields are final: " + f, !Modifier.isStatic(f.getModifiers())
          || Modifier.isFinal(f.getModifiers()));
    }
    check.isTrue("the fields are " + fields, fields.equals(Set.of("NONE", "BAD", "NO", "FULL")));
    Constructor<?>[] made = DoeRoe.class.getDeclaredConstructors();
    check.isTrue("one public constructor", made.length == 1
        && Modifier.isPublic(made[0].getModifiers()) && made[0].getParameterCount() == 0);
  }

  private static void nested() {
    Class<?>[] inside = DoeRoe.class.getDeclaredClasses();
    check.isTrue("at most twelve classes", inside.length + 1 <= 12);
    for (Class<?> c : inside) {
      int modifiers = c.getModifiers();
      check.isTrue("static: " + c, Modifier.isStatic(modifiers));
      check.isTrue("not in the face: " + c,
          !Modifier.isPublic(modifiers) && !Modifier.isProtected(modifiers));
      int fields = 0;
      for (Field f : c.getDeclaredFields()) {
        fields += Modifier.isStatic(f.getModifiers()) ? 0 : 1;
      }
      check.isTrue("at most twenty fields: " + c, fields <= 20);
    }
  }

  private static DoeRoe busy() {
    DoeRoe x = new DoeRoe();
    x.book(9);
    for (int f = 0; f < 6; f++) {
      x.fiction(5 - f, 3 * f, f, 4 * f);
    }
    x.court(3, 20);
    x.court(252, 7);
    x.plead(0);
    x.plead(5);
    x.note(3, 3, 3);
    x.heard(1, 0);
    Check.type(x, "book 1;fiction 2 2 2;");
    return x;
  }

  /** Each call with every number that is at an edge, in each place; one that throws ends all. */
  private static void everyEdge() throws Exception {
    for (Method m : DoeRoe.class.getDeclaredMethods()) {
      if (isPrivate(m)) {
        continue;
      }
      int places = m.getParameterCount();
      Object[] args = new Object[places];
      int many = 1;
      for (int p = 0; p < places; p++) {
        many *= places < 4 ? EDGES.length : 9;
      }
      DoeRoe fresh = new DoeRoe();
      DoeRoe busy = busy();
      for (int k = 0; k < many; k++) {
        int rest = k;
        for (int p = 0; p < places; p++) {
          int from = places < 4 ? EDGES.length : 9;
          args[p] = EDGES[(rest % from) * (EDGES.length / from)];
          rest /= from;
        }
        if (k % 400 == 0) {
          fresh = new DoeRoe();
          busy = busy();
        }
        m.invoke(fresh, args);
        m.invoke(busy, args);
      }
      check.isTrue("every edge of " + m, true);
    }
  }
}
