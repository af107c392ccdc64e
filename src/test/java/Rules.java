import com.sun.source.tree.AnnotationTree;
import com.sun.source.tree.ArrayAccessTree;
import com.sun.source.tree.AssertTree;
import com.sun.source.tree.BinaryTree;
import com.sun.source.tree.BlockTree;
import com.sun.source.tree.ClassTree;
import com.sun.source.tree.CompilationUnitTree;
import com.sun.source.tree.CompoundAssignmentTree;
import com.sun.source.tree.DoWhileLoopTree;
import com.sun.source.tree.ExpressionTree;
import com.sun.source.tree.ForLoopTree;
import com.sun.source.tree.IdentifierTree;
import com.sun.source.tree.ImportTree;
import com.sun.source.tree.LambdaExpressionTree;
import com.sun.source.tree.LiteralTree;
import com.sun.source.tree.MemberReferenceTree;
import com.sun.source.tree.MemberSelectTree;
import com.sun.source.tree.MethodInvocationTree;
import com.sun.source.tree.MethodTree;
import com.sun.source.tree.NewArrayTree;
import com.sun.source.tree.NewClassTree;
import com.sun.source.tree.PackageTree;
import com.sun.source.tree.SwitchTree;
import com.sun.source.tree.SynchronizedTree;
import com.sun.source.tree.ThrowTree;
import com.sun.source.tree.Tree;
import com.sun.source.tree.TryTree;
import com.sun.source.tree.TypeCastTree;
import com.sun.source.tree.VariableTree;
import com.sun.source.tree.WhileLoopTree;
import com.sun.source.util.JavacTask;
import com.sun.source.util.TreePath;
import com.sun.source.util.TreePathScanner;
import com.sun.source.util.Trees;
import java.net.URI;
import java.util.ArrayList;
import java.util.HashSet;
import java.util.List;
import java.util.Set;
import javax.lang.model.element.Element;
import javax.lang.model.element.ElementKind;
import javax.lang.model.element.ExecutableElement;
import javax.lang.model.element.Modifier;
import javax.lang.model.element.TypeElement;
import javax.lang.model.element.VariableElement;
import javax.lang.model.type.ArrayType;
import javax.lang.model.type.DeclaredType;
import javax.lang.model.type.TypeKind;
import javax.lang.model.type.TypeMirror;
import javax.tools.JavaCompiler;
import javax.tools.SimpleJavaFileObject;
import javax.tools.ToolProvider;

/**
 * LANGUAGE.md, as far as the compiler's view of a source can tell: each fault begins with the
 * number of its rule. Depth and recursion (rules 8 and 11) are DepthTest's.
 */
final class Rules extends TreePathScanner<Void, Void> {
  private static final int MOST_CLASSES = 12, MOST_FIELDS = 20, MOST_LINES = 60, MOST_PARAMETERS = 7;
  private static final Set<String> IMPORTS = Set.of("java.util.ArrayList", "java.util.List",
      "java.util.Arrays", "java.util.Iterator");
  private static final Set<String> TYPES = Set.of("java.lang.String", "java.lang.StringBuilder",
      "java.lang.Integer", "java.util.ArrayList", "java.util.List");
  private static final Set<String> CALLS = Set.of("String.length", "String.charAt",
      "String.isEmpty", "String.equals", "String.indexOf", "String.substring",
      "String.toCharArray", "StringBuilder.append", "StringBuilder.charAt",
      "StringBuilder.setCharAt", "StringBuilder.setLength", "StringBuilder.deleteCharAt",
      "StringBuilder.reverse", "StringBuilder.length", "StringBuilder.toString",
      "ArrayList.add", "ArrayList.get", "ArrayList.set", "ArrayList.remove", "ArrayList.size",
      "ArrayList.isEmpty", "ArrayList.clear", "List.add", "List.get", "List.set", "List.remove",
      "List.size", "List.isEmpty", "List.clear", "List.of", "System.arraycopy", "Arrays.copyOf",
      "Arrays.copyOfRange", "Arrays.fill");
  private static final Set<String> OWN_NEVER = Set.of("equals", "hashCode", "toString");

  private final List<String> faults = new ArrayList<>();
  private final Set<String> faceNames = new HashSet<>();
  private Trees trees;
  private CompilationUnitTree unit;
  private int classes = 0;

  private Rules() {
  }

  private static final class Source extends SimpleJavaFileObject {
    private final String text;

    Source(String text) {
      super(URI.create("string:///DoeRoe.java"), Kind.SOURCE);
      this.text = text;
    }

    @Override
    public CharSequence getCharContent(boolean ignoreErrors) {
      return text;
    }
  }

  /** What of a source of DoeRoe is outside the rules; a source that does not compile is rule 0. */
  static List<String> faults(String text) throws Exception {
    JavaCompiler compiler = ToolProvider.getSystemJavaCompiler();
    List<String> errors = new ArrayList<>();
    JavacTask task = (JavacTask) compiler.getTask(null, null, d -> errors.add("0: " + d),
        List.of("-proc:none", "-Xlint:none"), null, List.of(new Source(text)));
    Iterable<? extends CompilationUnitTree> units = task.parse();
    task.analyze();
    Rules rules = new Rules();
    rules.trees = Trees.instance(task);
    for (CompilationUnitTree u : units) {
      rules.unit = u;
      rules.scan(u, null);
    }
    rules.faults.addAll(errors);
    return rules.faults;
  }

  private void fault(int rule, String what, Tree at) {
    long place = trees.getSourcePositions().getStartPosition(unit, at);
    long line = place < 0 ? 0 : unit.getLineMap().getLineNumber(place);
    faults.add(rule + ": " + what + ", line " + line);
  }

  private void need(boolean holds, int rule, String what, Tree at) {
    if (!holds) {
      fault(rule, what, at);
    }
  }

  private Element element(Tree tree) {
    return trees.getElement(new TreePath(getCurrentPath(), tree));
  }

  private TypeMirror type(Tree tree) {
    return trees.getTypeMirror(new TreePath(getCurrentPath(), tree));
  }

  private static boolean isOwn(Element e) {
    for (Element up = e; up != null; up = up.getEnclosingElement()) {
      if (up.getSimpleName().contentEquals("DoeRoe")) {
        return true;
      }
    }
    return false;
  }

  private MethodTree methodAround() {
    for (TreePath p = getCurrentPath(); p != null; p = p.getParentPath()) {
      if (p.getLeaf() instanceof MethodTree) {
        return (MethodTree) p.getLeaf();
      }
    }
    return null;
  }

  private boolean inConstructor() {
    MethodTree m = methodAround();
    return m != null && m.getName().contentEquals("<init>");
  }

  // ---- the file and its classes

  @Override
  public Void visitCompilationUnit(CompilationUnitTree node, Void p) {
    need(node.getTypeDecls().size() == 1, 1, "one class", node);
    return super.visitCompilationUnit(node, p);
  }

  @Override
  public Void visitPackage(PackageTree node, Void p) {
    fault(1, "a package line", node);
    return null;
  }

  @Override
  public Void visitImport(ImportTree node, Void p) {
    need(IMPORTS.contains(node.getQualifiedIdentifier().toString()), 4, "an import", node);
    return null;
  }

  @Override
  public Void visitAnnotation(AnnotationTree node, Void p) {
    fault(4, "an annotation", node);
    return null;
  }

  @Override
  public Void visitClass(ClassTree node, Void p) {
    Element e = trees.getElement(getCurrentPath());
    Set<Modifier> modifiers = e.getModifiers();
    Tree outer = getCurrentPath().getParentPath().getLeaf();
    classes++;
    need(classes <= MOST_CLASSES, 11, "a class too many", node);
    if (outer instanceof CompilationUnitTree) {
      need(modifiers.contains(Modifier.PUBLIC) && modifiers.contains(Modifier.FINAL), 1,
          "public and final", node);
      gatherFace(node);
    } else {
      need(outer instanceof ClassTree, 2, "a local or anonymous class", node);
      need(modifiers.contains(Modifier.STATIC), 2, "a class that is not static", node);
      need(!modifiers.contains(Modifier.PUBLIC) && !modifiers.contains(Modifier.PROTECTED), 1,
          "a class in the face", node);
    }
    lookAtMembers(node);
    return super.visitClass(node, p);
  }

  private void gatherFace(ClassTree node) {
    for (Tree member : node.getMembers()) {
      if (member instanceof MethodTree) {
        Set<Modifier> m = ((MethodTree) member).getModifiers().getFlags();
        need(m.contains(Modifier.PUBLIC) || m.contains(Modifier.PRIVATE), 1,
            "neither public nor private", member);
        String name = ((MethodTree) member).getName().toString();
        if (m.contains(Modifier.PUBLIC) && !name.equals("<init>")) {
          faceNames.add(name);
        }
      } else if (member instanceof VariableTree) {
        Set<Modifier> m = ((VariableTree) member).getModifiers().getFlags();
        need(m.contains(Modifier.PRIVATE) || m.contains(Modifier.PUBLIC)
            && m.contains(Modifier.STATIC), 1, "a field that can be seen", member);
      }
    }
  }

  private void lookAtMembers(ClassTree node) {
    int fields = 0;
    for (Tree member : node.getMembers()) {
      need(!(member instanceof BlockTree), 5, "an initialiser block", member);
      if (member instanceof VariableTree) {
        Set<Modifier> m = ((VariableTree) member).getModifiers().getFlags();
        if (!m.contains(Modifier.STATIC)) {
          fields++;
        } else {
          lookAtStatic((VariableTree) member, m.contains(Modifier.FINAL));
        }
      }
    }
    need(fields <= MOST_FIELDS, 11, "a field too many", node);
  }

  private void lookAtStatic(VariableTree field, boolean isFinal) {
    need(isFinal, 5, "a static field that is not final", field);
    String type = String.valueOf(field.getType());
    boolean plain = Set.of("int", "long", "boolean", "char", "String").contains(type);
    boolean row = Set.of("int[]", "long[]", "char[]", "byte[]").contains(type)
        && field.getInitializer() instanceof NewArrayTree
        && ((NewArrayTree) field.getInitializer()).getInitializers() != null;
    need(plain || row, 5, "a static field of another type", field);
  }

  // ---- methods and variables

  @Override
  public Void visitMethod(MethodTree node, Void p) {
    String name = node.getName().toString();
    Set<Modifier> modifiers = node.getModifiers().getFlags();
    need(!modifiers.contains(Modifier.PRIVATE) || !faceNames.contains(name), 1,
        "a private method with a name of the face", node);
    need(!modifiers.contains(Modifier.SYNCHRONIZED) && node.getThrows().isEmpty(), 6,
        "synchronized, throws", node);
    need(!OWN_NEVER.contains(name), 6, "equals, hashCode, toString of one's own", node);
    need(node.getParameters().size() <= MOST_PARAMETERS, 11, "a parameter too many", node);
    long from = trees.getSourcePositions().getStartPosition(unit, node);
    long to = trees.getSourcePositions().getEndPosition(unit, node);
    if (from >= 0 && to > from) {
      need(unit.getLineMap().getLineNumber(to) - unit.getLineMap().getLineNumber(from)
          < MOST_LINES, 11, "a long method", node);
    }
    if (node.getReturnType() != null) {
      need(isAllowed(type(node.getReturnType())), 3, "a type", node);
    }
    return super.visitMethod(node, p);
  }

  @Override
  public Void visitVariable(VariableTree node, Void p) {
    need(isAllowed(trees.getTypeMirror(getCurrentPath())), 3, "a type", node);
    return super.visitVariable(node, p);
  }

  private static boolean isAllowed(TypeMirror type) {
    if (type == null) {
      return false;
    }
    if (type.getKind().isPrimitive() || type.getKind() == TypeKind.VOID) {
      return true;
    }
    if (type.getKind() == TypeKind.ARRAY) {
      TypeMirror of = ((ArrayType) type).getComponentType();
      boolean twice = of.getKind() == TypeKind.ARRAY
          && ((ArrayType) of).getComponentType().getKind().isPrimitive();
      return of.getKind().isPrimitive() || twice
          || of.getKind() == TypeKind.DECLARED && isOwn(((DeclaredType) of).asElement());
    }
    if (type.getKind() == TypeKind.DECLARED) {
      TypeElement e = (TypeElement) ((DeclaredType) type).asElement();
      return isOwn(e) || TYPES.contains(e.getQualifiedName().toString());
    }
    return type.getKind() == TypeKind.TYPEVAR;
  }

  // ---- what is called and made

  @Override
  public Void visitMethodInvocation(MethodInvocationTree node, Void p) {
    Element e = element(node.getMethodSelect());
    if (e instanceof ExecutableElement && e.getKind() == ElementKind.METHOD) {
      need(isOwn(e) || isLibrary((ExecutableElement) e, node), 4, "a call of " + e, node);
      if (inConstructor() && isOwn(e)) {
        Set<Modifier> m = e.getModifiers();
        need(m.contains(Modifier.STATIC) || m.contains(Modifier.PRIVATE)
            || m.contains(Modifier.FINAL)
            || e.getEnclosingElement().getModifiers().contains(Modifier.FINAL), 12,
            "a constructor calls what may be overridden", node);
      }
    }
    return super.visitMethodInvocation(node, p);
  }

  private boolean isLibrary(ExecutableElement e, MethodInvocationTree node) {
    String owner = e.getEnclosingElement().getSimpleName().toString();
    String name = e.getSimpleName().toString();
    if (name.equals("clone") && node.getMethodSelect() instanceof MemberSelectTree) {
      Tree of = ((MemberSelectTree) node.getMethodSelect()).getExpression();
      return trees.getTypeMirror(new TreePath(new TreePath(getCurrentPath(),
          node.getMethodSelect()), of)).getKind() == TypeKind.ARRAY;
    }
    if (Set.of("Integer", "Long", "Math").contains(owner)) {
      boolean whole = e.getModifiers().contains(Modifier.STATIC) && !name.endsWith("Exact");
      for (VariableElement parameter : e.getParameters()) {
        TypeKind kind = parameter.asType().getKind();
        whole &= kind == TypeKind.INT || kind == TypeKind.LONG;
      }
      return whole;
    }
    return CALLS.contains(owner + "." + name);
  }

  @Override
  public Void visitMemberSelect(MemberSelectTree node, Void p) {
    Element e = trees.getElement(getCurrentPath());
    if (e instanceof VariableElement && e.getKind() == ElementKind.FIELD
        && e.getEnclosingElement() instanceof TypeElement
        && !node.getIdentifier().contentEquals("length")) {
      need(isOwn(e), 4, "a field of the library, " + node, node);
    }
    return super.visitMemberSelect(node, p);
  }

  /** The project's own way to keep rule 12: what is made is made with the object. */
  private void madeHere(Tree node) {
    need(inConstructor() || methodAround() == null, 12, "something made by a call", node);
  }

  @Override
  public Void visitNewClass(NewClassTree node, Void p) {
    need(node.getClassBody() == null, 2, "an anonymous class", node);
    need(isAllowed(type(node)), 3, "an object", node);
    madeHere(node);
    return super.visitNewClass(node, p);
  }

  private TypeMirror type(NewClassTree node) {
    return trees.getTypeMirror(getCurrentPath());
  }

  @Override
  public Void visitNewArray(NewArrayTree node, Void p) {
    madeHere(node);
    return super.visitNewArray(node, p);
  }

  @Override
  public Void visitIdentifier(IdentifierTree node, Void p) {
    Tree parent = getCurrentPath().getParentPath().getLeaf();
    if (node.getName().contentEquals("this") && inConstructor()) {
      need(parent instanceof MemberSelectTree, 12, "a constructor hands out its object", node);
    }
    return super.visitIdentifier(node, p);
  }

  @Override
  public Void visitLiteral(LiteralTree node, Void p) {
    String signs = node.getValue() instanceof String || node.getValue() instanceof Character
        ? node.getValue().toString() : "";
    need(signs.chars().allMatch(c -> c >= 1 && c <= 127), 4, "a sign beyond 127", node);
    return super.visitLiteral(node, p);
  }

  // ---- what is never there

  @Override
  public Void visitLambdaExpression(LambdaExpressionTree node, Void p) {
    fault(2, "a lambda", node);
    return super.visitLambdaExpression(node, p);
  }

  @Override
  public Void visitMemberReference(MemberReferenceTree node, Void p) {
    fault(2, "a method reference", node);
    return super.visitMemberReference(node, p);
  }

  @Override
  public Void visitThrow(ThrowTree node, Void p) {
    fault(6, "throw", node);
    return super.visitThrow(node, p);
  }

  @Override
  public Void visitTry(TryTree node, Void p) {
    fault(6, "try", node);
    return super.visitTry(node, p);
  }

  @Override
  public Void visitSynchronized(SynchronizedTree node, Void p) {
    fault(6, "synchronized", node);
    return super.visitSynchronized(node, p);
  }

  @Override
  public Void visitAssert(AssertTree node, Void p) {
    fault(6, "assert", node);
    return super.visitAssert(node, p);
  }

  @Override
  public Void visitTypeCast(TypeCastTree node, Void p) {
    need(type(node.getType()).getKind().isPrimitive(), 6, "a cast of an object", node);
    return super.visitTypeCast(node, p);
  }

  private boolean isText(Tree tree) {
    String name = String.valueOf(type(tree));
    return name.equals("java.lang.String") || name.equals("java.lang.Integer");
  }

  @Override
  public Void visitBinary(BinaryTree node, Void p) {
    boolean left = isText(node.getLeftOperand());
    boolean right = isText(node.getRightOperand());
    switch (node.getKind()) {
      case EQUAL_TO:
      case NOT_EQUAL_TO:
        need(!left || !right, 6, "two texts by ==", node);
        break;
      case PLUS:
        need(!left && !right, 10, "texts by +", node);
        break;
      case DIVIDE:
      case REMAINDER:
        lookAtDivisor(node.getRightOperand());
        break;
      default:
        break;
    }
    return super.visitBinary(node, p);
  }

  @Override
  public Void visitCompoundAssignment(CompoundAssignmentTree node, Void p) {
    need(!isText(node.getVariable()), 10, "texts by +=", node);
    if (node.getKind() == Tree.Kind.DIVIDE_ASSIGNMENT
        || node.getKind() == Tree.Kind.REMAINDER_ASSIGNMENT) {
      lookAtDivisor(node.getExpression());
    }
    return super.visitCompoundAssignment(node, p);
  }

  /** A constant that is not 0, or a name that the method holds against 0. */
  private void lookAtDivisor(ExpressionTree divisor) {
    Object constant = divisor instanceof LiteralTree ? ((LiteralTree) divisor).getValue() : null;
    Element e = element(divisor);
    if (e instanceof VariableElement && ((VariableElement) e).getConstantValue() != null) {
      constant = ((VariableElement) e).getConstantValue();
    }
    boolean whole = constant instanceof Number && ((Number) constant).longValue() != 0;
    String body = String.valueOf(methodAround());
    String looked = "(?s).*\\b" + divisor + " (!=|>) 0.*";
    need(whole || divisor instanceof IdentifierTree && body.matches(looked), 7,
        "a divisor that is not looked at", divisor);
  }

  /** The method must hold an index against the length of the array that it is used in. */
  @Override
  public Void visitArrayAccess(ArrayAccessTree node, Void p) {
    need(String.valueOf(methodAround()).contains(node.getExpression() + ".length"), 7,
        "an index that is not looked at", node);
    return super.visitArrayAccess(node, p);
  }

  // ---- loops and switches

  private static boolean isTrue(ExpressionTree condition) {
    return condition == null || condition.toString().replaceAll("[()]", "").equals("true");
  }

  @Override
  public Void visitForLoop(ForLoopTree node, Void p) {
    need(!isTrue(node.getCondition()), 9, "a loop without an end", node);
    return super.visitForLoop(node, p);
  }

  @Override
  public Void visitWhileLoop(WhileLoopTree node, Void p) {
    need(!isTrue(node.getCondition()), 9, "a loop without an end", node);
    return super.visitWhileLoop(node, p);
  }

  @Override
  public Void visitDoWhileLoop(DoWhileLoopTree node, Void p) {
    need(!isTrue(node.getCondition()), 9, "a loop without an end", node);
    return super.visitDoWhileLoop(node, p);
  }

  @Override
  public Void visitSwitch(SwitchTree node, Void p) {
    need(!isText(node.getExpression()), 10, "a switch on a text", node);
    return super.visitSwitch(node, p);
  }
}
