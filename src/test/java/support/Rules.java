import com.sun.source.tree.AssertTree;
import com.sun.source.tree.BinaryTree;
import com.sun.source.tree.BlockTree;
import com.sun.source.tree.ClassTree;
import com.sun.source.tree.CompilationUnitTree;
import com.sun.source.tree.CompoundAssignmentTree;
import com.sun.source.tree.DoWhileLoopTree;
import com.sun.source.tree.ExpressionTree;
import com.sun.source.tree.ForLoopTree;
import com.sun.source.tree.ImportTree;
import com.sun.source.tree.LambdaExpressionTree;
import com.sun.source.tree.LiteralTree;
import com.sun.source.tree.MemberReferenceTree;
import com.sun.source.tree.MethodInvocationTree;
import com.sun.source.tree.MethodTree;
import com.sun.source.tree.NewArrayTree;
import com.sun.source.tree.NewClassTree;
import com.sun.source.tree.SynchronizedTree;
import com.sun.source.tree.ThrowTree;
import com.sun.source.tree.Tree;
import com.sun.source.tree.TryTree;
import com.sun.source.tree.TypeCastTree;
import com.sun.source.tree.VariableTree;
import com.sun.source.tree.WhileLoopTree;
import com.sun.source.util.JavacTask;
import com.sun.source.util.TreePath;
import com.sun.source.util.TreePathScanner;
import com.sun.source.util.Trees;
import java.io.IOException;
import java.net.URI;
import java.util.ArrayList;
import java.util.HashSet;
import java.util.LinkedHashMap;
import java.util.LinkedHashSet;
import java.util.List;
import java.util.Map;
import java.util.Set;
import javax.lang.model.element.Element;
import javax.lang.model.element.ElementKind;
import javax.lang.model.element.ExecutableElement;
import javax.lang.model.element.Modifier;
import javax.lang.model.element.TypeElement;
import javax.lang.model.type.ArrayType;
import javax.lang.model.type.DeclaredType;
import javax.lang.model.type.TypeKind;
import javax.lang.model.type.TypeMirror;
import javax.tools.JavaFileObject;
import javax.tools.SimpleJavaFileObject;
import javax.tools.ToolProvider;

/**
 * Reads a program's tree and says which rules of LANGUAGE.md it breaks, as far as a tree shows it:
 * not rule 7 (that nothing throws), nor of rule 9 more than that a loop has a condition.
 */
final class Rules extends TreePathScanner<Void, Void> {
  private static final Set<String> TYPES = Set.of("java.lang.String", "java.lang.StringBuilder",
      "java.lang.Integer", "java.util.ArrayList", "java.util.List", "java.util.Iterator",
      "java.lang.Iterable", "java.lang.Comparable");
  private static final Set<String> LIBRARY = Set.of("String.length()", "String.charAt(int)",
      "String.isEmpty()", "String.equals(java.lang.Object)", "String.indexOf(int)",
      "String.substring(int)", "String.substring(int,int)", "String.toCharArray()",
      "StringBuilder.append(char)", "StringBuilder.append(java.lang.String)",
      "StringBuilder.append(int)", "StringBuilder.charAt(int)", "StringBuilder.setCharAt(int,char)",
      "StringBuilder.setLength(int)", "StringBuilder.deleteCharAt(int)", "StringBuilder.reverse()",
      "StringBuilder.length()", "StringBuilder.toString()");
  private static final Set<String> LIST = Set.of("add", "get", "set", "remove", "size", "isEmpty",
      "clear", "of");
  private static final Set<String> ARRAYS = Set.of("copyOf", "copyOfRange", "fill");
  private static final int MOST_LINES = 65;
  private static final int MOST_DEEP = 8;

  private final Trees trees;
  private final CompilationUnitTree unit;
  private final List<String> complaints = new ArrayList<>();
  private final List<String> makers = new ArrayList<>();
  private final Map<ExecutableElement, Set<ExecutableElement>> calls = new LinkedHashMap<>();
  private int classes;

  private Rules(Trees trees, CompilationUnitTree unit) {
    this.trees = trees;
    this.unit = unit;
  }

  /** What there is to complain of, each line beginning with a rule's number. */
  static List<String> complaints(String name, String source) throws IOException {
    return read(name, source).complaints;
  }

  /** The methods in which an object or an array is made; constructors are none. */
  static List<String> makers(String name, String source) throws IOException {
    return read(name, source).makers;
  }

  private static Rules read(String name, String source) throws IOException {
    JavaFileObject file = new SimpleJavaFileObject(URI.create("string:///" + name + ".java"),
        JavaFileObject.Kind.SOURCE) {
      @Override
      public CharSequence getCharContent(boolean ignoreErrors) {
        return source;
      }
    };
    JavacTask task = (JavacTask) ToolProvider.getSystemJavaCompiler().getTask(null, null, null,
        List.of("-proc:none", "--release", "17"), null, List.of(file));
    CompilationUnitTree unit = task.parse().iterator().next();
    task.analyze();
    Rules rules = new Rules(Trees.instance(task), unit);
    if (unit.getPackageName() != null) {
      rules.complain(0, "a package line", unit.getPackage());
    }
    rules.scan(new TreePath(unit), null);
    rules.lookAtCalls();
    return rules;
  }

  private void complain(int rule, String what, Tree where) {
    long line = unit.getLineMap().getLineNumber(
        trees.getSourcePositions().getStartPosition(unit, where));
    complaints.add(rule + ": " + what + " in line " + line);
  }

  private void demand(boolean holds, int rule, String what, Tree where) {
    if (!holds) {
      complain(rule, what, where);
    }
  }

  // ---- classes and their members

  @Override
  public Void visitImport(ImportTree tree, Void none) {
    String name = tree.getQualifiedIdentifier().toString();
    boolean listed = name.equals("java.util.Arrays") || TYPES.contains(name);
    demand(listed && !tree.isStatic(), 4, "import " + name, tree);
    return super.visitImport(tree, none);
  }

  @Override
  public Void visitClass(ClassTree tree, Void none) {
    classes++;
    demand(classes <= 12, 11, "more than twelve classes", tree);
    TypeElement type = (TypeElement) trees.getElement(getCurrentPath());
    Tree outside = getCurrentPath().getParentPath().getLeaf();
    if (outside instanceof CompilationUnitTree) {
      demand(type.getModifiers().containsAll(Set.of(Modifier.PUBLIC, Modifier.FINAL)), 1,
          "not public and final", tree);
      lookAtFace(type, tree);
    } else if (outside instanceof ClassTree) {
      Set<Modifier> has = type.getModifiers();
      demand(has.contains(Modifier.STATIC), 2, "a class that isn't static", tree);
      demand(!has.contains(Modifier.PUBLIC) && !has.contains(Modifier.PROTECTED), 1,
          "an open class inside", tree);
    } else {
      complain(2, "a local or anonymous class", tree);
    }
    lookAtFields(type, tree);
    return super.visitClass(tree, none);
  }

  private void lookAtFace(TypeElement type, Tree tree) {
    Set<String> open = new HashSet<>();
    for (Element member : type.getEnclosedElements()) {
      boolean isClass = member instanceof TypeElement;
      Set<Modifier> has = member.getModifiers();
      demand(isClass || has.contains(Modifier.PUBLIC) || has.contains(Modifier.PRIVATE), 1,
          member + " is neither public nor private", tree);
      if (member.getKind() == ElementKind.METHOD && has.contains(Modifier.PUBLIC)) {
        open.add(member.getSimpleName().toString());
      }
    }
    for (Element member : type.getEnclosedElements()) {
      demand(member.getKind() != ElementKind.METHOD
          || member.getModifiers().contains(Modifier.PUBLIC)
          || !open.contains(member.getSimpleName().toString()), 1,
          member + " bears the name of a public one", tree);
    }
  }

  private void lookAtFields(TypeElement type, Tree tree) {
    long fields = type.getEnclosedElements().stream().filter(e -> e.getKind() == ElementKind.FIELD
        && !e.getModifiers().contains(Modifier.STATIC)).count();
    demand(fields <= 20, 11, "more than twenty fields", tree);
  }

  @Override
  public Void visitVariable(VariableTree tree, Void none) {
    Element variable = trees.getElement(getCurrentPath());
    demand(mayBe(variable.asType(), 0), 3, "the type " + variable.asType(), tree);
    if (variable.getKind() == ElementKind.FIELD
        && variable.getModifiers().contains(Modifier.STATIC)) {
      lookAtStatic(tree, variable);
    }
    return super.visitVariable(tree, none);
  }

  private void lookAtStatic(VariableTree tree, Element variable) {
    TypeMirror type = variable.asType();
    demand(variable.getModifiers().contains(Modifier.FINAL), 5, "static and not final", tree);
    if (type instanceof ArrayType array) {
      Set<TypeKind> kinds = Set.of(TypeKind.INT, TypeKind.LONG, TypeKind.CHAR, TypeKind.BYTE);
      boolean isEnum = array.getComponentType() instanceof DeclaredType own
          && own.asElement().getKind() == ElementKind.ENUM;
      boolean written = tree.getInitializer() instanceof NewArrayTree made
          && made.getInitializers() != null;
      demand(isEnum || kinds.contains(array.getComponentType().getKind()) && written, 5,
          "a static array that isn't written out", tree);
    } else {
      Set<TypeKind> kinds = Set.of(TypeKind.INT, TypeKind.LONG, TypeKind.BOOLEAN, TypeKind.CHAR);
      demand(kinds.contains(type.getKind()) || type.toString().equals("java.lang.String"), 5,
          "a static " + type, tree);
    }
  }

  private boolean isOwn(Element element) {
    Element outmost = element;
    while (outmost.getEnclosingElement() instanceof TypeElement outside) {
      outmost = outside;
    }
    for (Tree type : unit.getTypeDecls()) {
      if (trees.getElement(trees.getPath(unit, type)).equals(outmost)) {
        return true;
      }
    }
    return false;
  }

  private boolean mayBe(TypeMirror type, int dimensions) {
    if (type.getKind().isPrimitive()) {
      return dimensions <= 2;
    }
    if (type instanceof ArrayType array) {
      return mayBe(array.getComponentType(), dimensions + 1);
    }
    if (type.getKind() == TypeKind.TYPEVAR) {
      return dimensions == 0;
    }
    if (!(type instanceof DeclaredType declared)) {
      return type.getKind() == TypeKind.VOID;
    }
    String name = ((TypeElement) declared.asElement()).getQualifiedName().toString();
    return dimensions == 0 && TYPES.contains(name)
        || dimensions <= 1 && isOwn(declared.asElement());
  }

  @Override
  public Void visitMethod(MethodTree tree, Void none) {
    ExecutableElement method = (ExecutableElement) trees.getElement(getCurrentPath());
    calls.computeIfAbsent(method, m -> new LinkedHashSet<>());
    demand(tree.getParameters().size() <= 7, 11, "more than seven parameters", tree);
    demand(tree.getReturnType() == null || mayBe(method.getReturnType(), 0), 3,
        "the type " + method.getReturnType(), tree);
    long first = trees.getSourcePositions().getStartPosition(unit, tree);
    long last = trees.getSourcePositions().getEndPosition(unit, tree);
    long lines = last < 0 ? 1 : unit.getLineMap().getLineNumber(last)
        - unit.getLineMap().getLineNumber(first) + 1;
    demand(lines <= MOST_LINES, 11, "a method of " + lines + " lines", tree);
    demand(!Set.of("equals", "hashCode", "toString").contains(tree.getName().toString()), 6,
        tree.getName() + " of an own class", tree);
    return super.visitMethod(tree, none);
  }

  @Override
  public Void visitBlock(BlockTree tree, Void none) {
    demand(!tree.isStatic(), 5, "a static block", tree);
    return super.visitBlock(tree, none);
  }

  // ---- what may not stand at all

  @Override
  public Void visitLambdaExpression(LambdaExpressionTree tree, Void none) {
    complain(2, "a lambda", tree);
    return super.visitLambdaExpression(tree, none);
  }

  @Override
  public Void visitMemberReference(MemberReferenceTree tree, Void none) {
    complain(2, "a method reference", tree);
    return super.visitMemberReference(tree, none);
  }

  @Override
  public Void visitThrow(ThrowTree tree, Void none) {
    complain(6, "throw", tree);
    return super.visitThrow(tree, none);
  }

  @Override
  public Void visitTry(TryTree tree, Void none) {
    complain(6, "try", tree);
    return super.visitTry(tree, none);
  }

  @Override
  public Void visitSynchronized(SynchronizedTree tree, Void none) {
    complain(6, "synchronized", tree);
    return super.visitSynchronized(tree, none);
  }

  @Override
  public Void visitAssert(AssertTree tree, Void none) {
    complain(6, "assert", tree);
    return super.visitAssert(tree, none);
  }

  // ---- texts, comparisons, casts

  private TypeMirror typeOf(ExpressionTree tree) {
    return trees.getTypeMirror(new TreePath(getCurrentPath(), tree));
  }

  private boolean isText(ExpressionTree tree) {
    TypeMirror type = typeOf(tree);
    return type != null && type.toString().equals("java.lang.String");
  }

  private boolean isBox(ExpressionTree tree) {
    TypeMirror type = typeOf(tree);
    return type != null && type.toString().equals("java.lang.Integer");
  }

  @Override
  public Void visitBinary(BinaryTree tree, Void none) {
    ExpressionTree left = tree.getLeftOperand();
    ExpressionTree right = tree.getRightOperand();
    if (tree.getKind() == Tree.Kind.PLUS) {
      demand(!isText(left) && !isText(right), 10, "texts joined by +", tree);
    }
    if (tree.getKind() == Tree.Kind.EQUAL_TO || tree.getKind() == Tree.Kind.NOT_EQUAL_TO) {
      demand(!(isText(left) && isText(right)) && !(isBox(left) && isBox(right)), 6,
          "== of two Strings or Integers", tree);
    }
    return super.visitBinary(tree, none);
  }

  @Override
  public Void visitCompoundAssignment(CompoundAssignmentTree tree, Void none) {
    demand(!isText(tree.getVariable()), 10, "texts joined by +=", tree);
    return super.visitCompoundAssignment(tree, none);
  }

  @Override
  public Void visitTypeCast(TypeCastTree tree, Void none) {
    TypeMirror type = trees.getTypeMirror(new TreePath(getCurrentPath(), tree.getType()));
    demand(type.getKind().isPrimitive()
        || type instanceof DeclaredType declared && isOwn(declared.asElement()), 6,
        "a cast to " + type, tree);
    return super.visitTypeCast(tree, none);
  }

  @Override
  public Void visitLiteral(LiteralTree tree, Void none) {
    if (tree.getValue() instanceof String text) {
      demand(text.chars().allMatch(c -> c >= 1 && c <= 127), 4, "a sign beyond 127", tree);
    }
    return super.visitLiteral(tree, none);
  }

  // ---- loops

  private void lookAtCondition(ExpressionTree condition, Tree tree) {
    String text = condition == null ? "true" : condition.toString();
    demand(!text.equals("true") && !text.equals("(true)"), 9, "a loop without an end", tree);
  }

  @Override
  public Void visitForLoop(ForLoopTree tree, Void none) {
    lookAtCondition(tree.getCondition(), tree);
    return super.visitForLoop(tree, none);
  }

  @Override
  public Void visitWhileLoop(WhileLoopTree tree, Void none) {
    lookAtCondition(tree.getCondition(), tree);
    return super.visitWhileLoop(tree, none);
  }

  @Override
  public Void visitDoWhileLoop(DoWhileLoopTree tree, Void none) {
    lookAtCondition(tree.getCondition(), tree);
    return super.visitDoWhileLoop(tree, none);
  }

  // ---- what is made and called

  private ExecutableElement methodAround() {
    for (TreePath p = getCurrentPath(); p != null; p = p.getParentPath()) {
      if (p.getLeaf() instanceof MethodTree) {
        return (ExecutableElement) trees.getElement(p);
      }
    }
    return null;
  }

  private void noteMaker(String what) {
    ExecutableElement around = methodAround();
    if (around != null && around.getKind() == ElementKind.METHOD) {
      makers.add(around + " makes " + what);
    }
  }

  @Override
  public Void visitNewClass(NewClassTree tree, Void none) {
    TypeMirror type = typeOf(tree.getIdentifier());
    demand(type instanceof DeclaredType declared && (isOwn(declared.asElement())
        || Set.of("StringBuilder", "ArrayList", "String")
            .contains(declared.asElement().getSimpleName().toString())), 4, "new " + type, tree);
    noteMaker(tree.getIdentifier().toString());
    noteCall(trees.getElement(getCurrentPath()));
    return super.visitNewClass(tree, none);
  }

  @Override
  public Void visitNewArray(NewArrayTree tree, Void none) {
    noteMaker("an array");
    return super.visitNewArray(tree, none);
  }

  @Override
  public Void visitMethodInvocation(MethodInvocationTree tree, Void none) {
    Element called = trees.getElement(
        new TreePath(getCurrentPath(), tree.getMethodSelect()));
    if (called instanceof ExecutableElement method && !isOwn(method.getEnclosingElement())) {
      demand(isListed(method), 4, method.getEnclosingElement() + "." + method, tree);
    }
    noteCall(called);
    return super.visitMethodInvocation(tree, none);
  }

  private void noteCall(Element called) {
    ExecutableElement from = methodAround();
    if (from != null && called instanceof ExecutableElement to
        && isOwn(to.getEnclosingElement())) {
      calls.computeIfAbsent(from, m -> new LinkedHashSet<>()).add(to);
    }
  }

  private static boolean isListed(ExecutableElement method) {
    String owner = method.getEnclosingElement().getSimpleName().toString();
    String name = method.getSimpleName().toString();
    switch (owner) {
      case "String": case "StringBuilder":
        return LIBRARY.contains(owner + "." + method);
      case "ArrayList": case "List": case "Collection":
        return LIST.contains(name);
      case "Integer": case "Long": case "Math":
        return method.getModifiers().contains(Modifier.STATIC) && !name.endsWith("Exact")
            && !name.equals("random") && overWholeNumbers(method);
      case "System":
        return name.equals("arraycopy");
      case "Arrays":
        return ARRAYS.contains(name);
      case "Array":
        return name.equals("clone");
      default:
        return name.equals("<init>") || name.equals("super");
    }
  }

  private static boolean overWholeNumbers(ExecutableElement method) {
    return method.getParameters().stream().allMatch(p -> p.asType().getKind() == TypeKind.INT
        || p.asType().getKind() == TypeKind.LONG);
  }

  // ---- who calls whom

  private void lookAtCalls() {
    for (ExecutableElement method : calls.keySet()) {
      boolean again = reaches(method, method, new HashSet<>());
      boolean guarded = method.getModifiers().contains(Modifier.PRIVATE)
          && method.getParameters().stream()
              .anyMatch(p -> p.getSimpleName().contentEquals("depth"));
      if (again && !guarded) {
        complaints.add("8: " + method + " calls itself without a depth");
      }
      int deep = deep(method, new LinkedHashSet<>());
      if (deep > MOST_DEEP) {
        complaints.add("11: calls from " + method + " go " + deep + " deep");
      }
    }
  }

  private boolean reaches(ExecutableElement from, ExecutableElement to, Set<Element> seen) {
    for (ExecutableElement next : calls.getOrDefault(from, Set.of())) {
      if (next.equals(to) || seen.add(next) && reaches(next, to, seen)) {
        return true;
      }
    }
    return false;
  }

  /** A method that calls itself counts once. */
  private int deep(ExecutableElement method, Set<Element> open) {
    if (!open.add(method)) {
      return 0;
    }
    int most = 0;
    for (ExecutableElement next : calls.getOrDefault(method, Set.of())) {
      most = Math.max(most, deep(next, open));
    }
    open.remove(method);
    return most + 1;
  }
}
