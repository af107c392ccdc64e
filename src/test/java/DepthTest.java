import com.sun.source.tree.ClassTree;
import com.sun.source.tree.CompilationUnitTree;
import com.sun.source.tree.MethodInvocationTree;
import com.sun.source.tree.MethodTree;
import com.sun.source.tree.NewClassTree;
import com.sun.source.tree.Tree;
import com.sun.source.util.JavacTask;
import com.sun.source.util.TreePath;
import com.sun.source.util.TreePathScanner;
import com.sun.source.util.Trees;
import java.nio.file.Path;
import java.util.ArrayList;
import java.util.HashMap;
import java.util.HashSet;
import java.util.List;
import java.util.Map;
import java.util.Set;
import javax.lang.model.element.Element;
import javax.lang.model.element.ExecutableElement;
import javax.lang.model.element.Modifier;
import javax.lang.model.element.TypeElement;
import javax.tools.JavaCompiler;
import javax.tools.StandardJavaFileManager;
import javax.tools.ToolProvider;

/**
 * Rules 8 and 11 of LANGUAGE.md, as the compiler sees the class: calls go at most eight deep,
 * none comes back to itself, a method takes at most seven parameters.
 */
public final class DepthTest extends TreePathScanner<Void, Void> {
  private static final Check check = new Check();
  private static final int DEEPEST = 8;

  private final Trees trees;
  private final Map<Element, Set<Element>> calls = new HashMap<>();
  // Calls by super: one of a method itself, never of one that overrides it.
  private final Map<Element, Set<Element>> superCalls = new HashMap<>();
  private final Map<Element, Integer> depths = new HashMap<>();
  private final Set<Element> open = new HashSet<>();
  private Element caller;

  private DepthTest(Trees trees) {
    this.trees = trees;
  }

  public static void main(String[] args) throws Exception {
    JavaCompiler compiler = ToolProvider.getSystemJavaCompiler();
    try (StandardJavaFileManager files = compiler.getStandardFileManager(null, null, null)) {
      JavacTask task = (JavacTask) compiler.getTask(null, files, null, List.of("-proc:none"), null,
          files.getJavaFileObjects(Path.of("src/main/java/DoeRoe.java")));
      Iterable<? extends CompilationUnitTree> units = task.parse();
      task.analyze();
      DepthTest scan = new DepthTest(Trees.instance(task));
      for (CompilationUnitTree unit : units) {
        scan.scan(unit, null);
      }
      scan.lookAtAll(task);
    }
    check.end("DepthTest");
  }

  private void lookAtAll(JavacTask task) {
    List<Element> methods = new ArrayList<>(calls.keySet());
    check.isTrue("methods were found", methods.size() > 50);
    for (Element m : methods) {
      check.isTrue(m + " takes at most seven",
          ((ExecutableElement) m).getParameters().size() <= 7);
      addOverriding(task, m, methods);
    }
    for (Element m : methods) {
      if (m.getModifiers().contains(Modifier.PUBLIC)) {
        int depth = depth(m);
        check.isTrue(m + " goes " + depth + " deep", depth <= DEEPEST);
      }
    }
  }

  /** A call of a method may be one of each that overrides it. */
  private void addOverriding(JavacTask task, Element m, List<Element> methods) {
    for (Element other : methods) {
      TypeElement owner = (TypeElement) other.getEnclosingElement();
      if (other != m && task.getElements().overrides((ExecutableElement) other,
          (ExecutableElement) m, owner)) {
        for (Set<Element> called : calls.values()) {
          if (called.contains(m)) {
            called.add(other);
          }
        }
      }
    }
  }

  private int depth(Element m) {
    if (depths.containsKey(m)) {
      return depths.get(m);
    }
    check.isTrue(m + " does not come back to itself", !open.contains(m));
    if (!open.add(m)) {
      return 0;
    }
    Set<Element> all = new HashSet<>(calls.getOrDefault(m, Set.of()));
    all.addAll(superCalls.getOrDefault(m, Set.of()));
    int deepest = 0;
    for (Element called : all) {
      if (calls.containsKey(called)) {
        deepest = Math.max(deepest, depth(called));
      }
    }
    open.remove(m);
    depths.put(m, deepest + 1);
    return deepest + 1;
  }

  private void called(Element e, Map<Element, Set<Element>> into) {
    if (e instanceof ExecutableElement && caller != null) {
      into.get(caller).add(e);
    }
  }

  @Override
  public Void visitClass(ClassTree node, Void p) {
    Element outer = caller;
    caller = null;
    super.visitClass(node, p);
    caller = outer;
    return null;
  }

  @Override
  public Void visitMethod(MethodTree node, Void p) {
    caller = trees.getElement(getCurrentPath());
    calls.put(caller, new HashSet<>());
    superCalls.put(caller, new HashSet<>());
    super.visitMethod(node, p);
    caller = null;
    return null;
  }

  @Override
  public Void visitMethodInvocation(MethodInvocationTree node, Void p) {
    Tree select = node.getMethodSelect();
    called(trees.getElement(new TreePath(getCurrentPath(), select)),
        select.toString().startsWith("super") ? superCalls : calls);
    return super.visitMethodInvocation(node, p);
  }

  @Override
  public Void visitNewClass(NewClassTree node, Void p) {
    called(trees.getElement(getCurrentPath()), calls);
    return super.visitNewClass(node, p);
  }
}
