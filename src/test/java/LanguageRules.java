import com.sun.source.tree.*;
import com.sun.source.util.TreePath;
import com.sun.source.util.TreePathScanner;
import com.sun.source.util.Trees;
import java.util.ArrayDeque;
import java.util.Deque;
import java.util.LinkedHashMap;
import java.util.LinkedHashSet;
import java.util.List;
import java.util.Map;
import java.util.Set;
import javax.lang.model.element.Element;
import javax.lang.model.element.ElementKind;
import javax.lang.model.element.ExecutableElement;
import javax.lang.model.element.Modifier;
import javax.lang.model.type.ArrayType;
import javax.lang.model.type.DeclaredType;
import javax.lang.model.type.TypeKind;
import javax.lang.model.type.TypeMirror;

/**
 * Reads the program as the compiler does and checks it against those rules of ../shared/LANGUAGE.md
 * that can be seen from its text. It leaves out what the rules allow and the program does not need
 * (lists, catching, recursion, casts to classes), so that more is refused here than there.
 */
final class LanguageRules extends TreePathScanner<Void, Void> {

  private static final Set<String> LIBRARY = Set.of(
      "java.lang.String.length()", "java.lang.String.charAt(int)",
      "java.lang.StringBuilder.append(char)", "java.lang.StringBuilder.append(int)",
      "java.lang.StringBuilder.charAt(int)", "java.lang.StringBuilder.length()",
      "java.lang.StringBuilder.setLength(int)", "java.lang.Math.max(int,int)",
      "java.lang.Math.min(int,int)",
      "java.lang.System.arraycopy(java.lang.Object,int,java.lang.Object,int,int)");
  private static final Set<String> TEXTS = Set.of("java.lang.String", "java.lang.StringBuilder");
  private static final Set<String> EXCEPTIONS = Set.of(
      "java.lang.IllegalStateException", "java.lang.IllegalArgumentException",
      "java.lang.IndexOutOfBoundsException", "java.lang.ArithmeticException",
      "java.lang.UnsupportedOperationException", "java.util.NoSuchElementException");
  /** None of them can be 0: the damp is at most 9, and the two counts are tested before. */
  private static final Set<String> DIVISORS = Set.of(
      "POSITIONS", "DIALS", "CRUMBS_PER_PLAY", "CRUMBS_PER_BAKING_HOUR", "MOST_CHANGES_KEPT",
      "(HOURS_FROM_DRIFT_TO_DRIFT - damp)", "(double)house.doors", "(float)house.tries");
  private static final int MOST_PARAMETERS = 7;
  private static final int MOST_LINES = 60;
  private static final int MOST_CLASSES = 12;
  private static final int MOST_FIELDS = 20;
  private static final int MOST_DEPTH = 8;

  private final CompilationUnitTree unit;
  private final Trees trees;
  private final Map<Element, Set<Element>> calls = new LinkedHashMap<>();
  private final Set<String> broken = new LinkedHashSet<>();
  private int classes = 0;

  LanguageRules(CompilationUnitTree unit, Trees trees) {
    this.unit = unit;
    this.trees = trees;
  }

  /** Each breach with its rule and its line; none if the program keeps to the rules. */
  List<String> broken() {
    scan(unit, null);
    for (ImportTree line : unit.getImports()) {
      if (!line.toString().trim().equals("import java.util.NoSuchElementException;")) {
        broken.add("rule 4: " + line);
      }
    }
    if (classes > MOST_CLASSES) {
      broken.add("rule 11: " + classes + " classes");
    }
    for (Element start : calls.keySet()) {
      followCalls(start, new ArrayDeque<>());
    }
    return List.copyOf(broken);
  }

  private void followCalls(Element method, Deque<Element> open) {
    if (open.contains(method)) {
      broken.add("rule 8: " + method + " calls itself");
      return;
    }
    open.addLast(method);
    if (open.size() > MOST_DEPTH) {
      broken.add("rule 11: the calls " + open + " go too deep");
    }
    for (Element called : calls.getOrDefault(method, Set.of())) {
      followCalls(called, open);
    }
    open.removeLast();
  }

  private void breach(int rule, String what, Tree at) {
    long position = trees.getSourcePositions().getStartPosition(unit, at);
    broken.add("rule " + rule + ": " + what + " in line " + unit.getLineMap().getLineNumber(position));
  }

  private void breachIf(boolean is, int rule, String what, Tree at) {
    if (is) {
      breach(rule, what, at);
    }
  }

  // ---- where a tree stands

  private Element elementOf(Tree tree) {
    return trees.getElement(TreePath.getPath(unit, tree));
  }

  private TypeMirror typeOf(Tree tree) {
    return trees.getTypeMirror(TreePath.getPath(unit, tree));
  }

  private MethodTree methodAround() {
    for (TreePath path = getCurrentPath(); path != null; path = path.getParentPath()) {
      if (path.getLeaf() instanceof MethodTree) {
        return (MethodTree) path.getLeaf();
      }
    }
    return null;
  }

  private boolean standsInConstructor() {
    MethodTree method = methodAround();
    return method != null && method.getReturnType() == null;
  }

  private boolean standsDirectlyIn(Tree.Kind kind) {
    return getCurrentPath().getParentPath().getLeaf().getKind() == kind;
  }

  // ---- classes, methods and fields

  @Override
  public Void visitClass(ClassTree tree, Void none) {
    classes++;
    breachIf(methodAround() != null, 2, "a class in a method", tree);
    breachIf(tree.getExtendsClause() != null, 2, "a class above", tree);
    int fields = 0;
    for (Tree member : tree.getMembers()) {
      breachIf(member instanceof BlockTree, 5, "a block of initialisers", member);
      boolean counts = member instanceof VariableTree
          && !((VariableTree) member).getModifiers().getFlags().contains(Modifier.STATIC);
      fields += counts ? 1 : 0;
    }
    breachIf(fields > MOST_FIELDS, 11, fields + " fields", tree);
    return super.visitClass(tree, none);
  }

  @Override
  public Void visitMethod(MethodTree tree, Void none) {
    LineMap lines = unit.getLineMap();
    long start = trees.getSourcePositions().getStartPosition(unit, tree);
    long end = trees.getSourcePositions().getEndPosition(unit, tree);
    long length = end < 0 ? 1 : lines.getLineNumber(end) - lines.getLineNumber(start) + 1;
    breachIf(length > MOST_LINES, 11, length + " lines", tree);
    breachIf(tree.getParameters().size() > MOST_PARAMETERS, 11, "too many parameters", tree);
    String name = tree.getName().toString();
    breachIf(Set.of("equals", "hashCode", "toString").contains(name), 6, name, tree);
    if (tree.getReturnType() != null) {
      checkType(typeOf(tree.getReturnType()), tree);
    }
    calls.putIfAbsent(elementOf(tree), new LinkedHashSet<>());
    return super.visitMethod(tree, none);
  }

  @Override
  public Void visitVariable(VariableTree tree, Void none) {
    TypeMirror type = typeOf(tree);
    checkType(type, tree);
    Element element = elementOf(tree);
    if (element.getKind() == ElementKind.FIELD) {
      Element owner = element.getEnclosingElement();
      if (element.getModifiers().contains(Modifier.STATIC)) {
        checkStatic(tree, type, element);
      } else if (owner.getKind() == ElementKind.ENUM) {
        breachIf(!isNumber(type) && type.getKind() != TypeKind.BOOLEAN
            && !type.toString().equals("java.lang.String"), 2, "an enum's field " + type, tree);
      }
    }
    return super.visitVariable(tree, none);
  }

  private void checkStatic(VariableTree tree, TypeMirror type, Element element) {
    breachIf(!element.getModifiers().contains(Modifier.FINAL), 5, "a static field", tree);
    boolean keepsValues = tree.getInitializer() != null
        && tree.getInitializer().toString().endsWith(".values()");
    Set<String> plain = Set.of("int", "long", "boolean", "char", "java.lang.String");
    breachIf(!keepsValues && !plain.contains(type.toString()), 5, "a static " + type, tree);
  }

  private void checkType(TypeMirror type, Tree at) {
    breachIf(!isAllowed(type), 3, "the type " + type, at);
  }

  private boolean isAllowed(TypeMirror type) {
    if (type.getKind() == TypeKind.ARRAY) {
      TypeMirror part = ((ArrayType) type).getComponentType();
      return part.getKind() != TypeKind.ARRAY && (part.getKind().isPrimitive() || isOwn(part));
    }
    return type.getKind().isPrimitive() || type.getKind() == TypeKind.VOID || isOwn(type)
        || TEXTS.contains(type.toString());
  }

  private static boolean isNumber(TypeMirror type) {
    return type.getKind() == TypeKind.INT || type.getKind() == TypeKind.LONG;
  }

  private static boolean isOwn(TypeMirror type) {
    return type.getKind() == TypeKind.DECLARED && isOwn(((DeclaredType) type).asElement());
  }

  private static boolean isOwn(Element element) {
    Element outer = element;
    while (!(outer.getEnclosingElement() == null || outer.getKind() == ElementKind.CLASS
        && outer.getEnclosingElement().getKind() == ElementKind.PACKAGE)) {
      outer = outer.getEnclosingElement();
    }
    return outer.getSimpleName().contentEquals("BiscuitLocks");
  }

  // ---- calls and new objects

  @Override
  public Void visitMethodInvocation(MethodInvocationTree tree, Void none) {
    Element called = elementOf(tree.getMethodSelect());
    Element owner = called.getEnclosingElement();
    if (called.getSimpleName().contentEquals("values")) {
      breachIf(methodAround() != null, 12, "values() in a method", tree);
    } else if (isOwn(owner)) {
      addCall(called);
      breachIf(standsInConstructor(), 12, "a constructor calls " + called, tree);
    } else if (!called.getSimpleName().contentEquals("<init>")) {
      String name = receiverOf(tree.getMethodSelect()) + "." + called;
      breachIf(!LIBRARY.contains(name), 4, name, tree);
    }
    return super.visitMethodInvocation(tree, none);
  }

  /** A method may stand in a hidden class above the one whose name the program tells. */
  private String receiverOf(ExpressionTree method) {
    return method instanceof MemberSelectTree
        ? String.valueOf(typeOf(((MemberSelectTree) method).getExpression()))
        : "java.lang.Object";
  }

  private void addCall(Element called) {
    MethodTree caller = methodAround();
    if (caller != null) {
      calls.computeIfAbsent(elementOf(caller), key -> new LinkedHashSet<>()).add(called);
    }
  }

  @Override
  public Void visitNewClass(NewClassTree tree, Void none) {
    ExecutableElement made = (ExecutableElement) elementOf(tree);
    Element owner = made.getEnclosingElement();
    breachIf(tree.getClassBody() != null, 2, "an anonymous class", tree);
    breachIf(methodAround() != null && !standsInConstructor() && !standsDirectlyIn(Tree.Kind.THROW),
        12, "an object is made by a call", tree);
    String name = owner.toString();
    boolean known = isOwn(owner) || name.equals("java.lang.StringBuilder")
        || standsDirectlyIn(Tree.Kind.THROW) && EXCEPTIONS.contains(name);
    breachIf(!known, 4, "new " + name, tree);
    return super.visitNewClass(tree, none);
  }

  @Override
  public Void visitNewArray(NewArrayTree tree, Void none) {
    breachIf(methodAround() != null, 12, "an array is made by a call", tree);
    for (ExpressionTree length : tree.getDimensions()) {
      breachIf(!(length instanceof IdentifierTree), 7, "a length that is no constant", tree);
    }
    return super.visitNewArray(tree, none);
  }

  // ---- statements

  @Override
  public Void visitThrow(ThrowTree tree, Void none) {
    boolean plain = tree.getExpression() instanceof NewClassTree;
    if (plain) {
      List<? extends ExpressionTree> arguments =
          ((NewClassTree) tree.getExpression()).getArguments();
      plain = arguments.isEmpty()
          || arguments.size() == 1 && arguments.get(0).getKind() == Tree.Kind.STRING_LITERAL;
    }
    breachIf(!plain, 6, "a throw of another form", tree);
    breachIf(standsInConstructor(), 6, "a throw in a constructor", tree);
    return super.visitThrow(tree, none);
  }

  @Override
  public Void visitForLoop(ForLoopTree tree, Void none) {
    breachIf(tree.getCondition() == null || tree.getUpdate().isEmpty(), 9, "a loop", tree);
    return super.visitForLoop(tree, none);
  }

  @Override
  public Void visitWhileLoop(WhileLoopTree tree, Void none) {
    boolean counts = tree.getCondition().toString().matches("\\((turns|matching) < .+ && .+\\)");
    breachIf(!counts, 9, "a loop", tree);
    return super.visitWhileLoop(tree, none);
  }

  @Override
  public Void visitDoWhileLoop(DoWhileLoopTree tree, Void none) {
    breach(9, "a loop", tree);
    return super.visitDoWhileLoop(tree, none);
  }

  @Override
  public Void visitEnhancedForLoop(EnhancedForLoopTree tree, Void none) {
    breachIf(typeOf(tree.getExpression()).getKind() != TypeKind.ARRAY, 12, "an iterator", tree);
    return super.visitEnhancedForLoop(tree, none);
  }

  @Override
  public Void visitTry(TryTree tree, Void none) {
    breach(6, "try", tree);
    return super.visitTry(tree, none);
  }

  @Override
  public Void visitSynchronized(SynchronizedTree tree, Void none) {
    breach(6, "synchronized", tree);
    return super.visitSynchronized(tree, none);
  }

  @Override
  public Void visitAssert(AssertTree tree, Void none) {
    breach(6, "assert", tree);
    return super.visitAssert(tree, none);
  }

  @Override
  public Void visitSwitch(SwitchTree tree, Void none) {
    TypeMirror type = typeOf(tree.getExpression());
    breachIf(!isNumber(type) && !isOwn(type), 10, "a switch on " + type, tree);
    return super.visitSwitch(tree, none);
  }

  // ---- expressions

  @Override
  public Void visitLambdaExpression(LambdaExpressionTree tree, Void none) {
    breach(2, "a lambda", tree);
    return super.visitLambdaExpression(tree, none);
  }

  @Override
  public Void visitMemberReference(MemberReferenceTree tree, Void none) {
    breach(2, "a method reference", tree);
    return super.visitMemberReference(tree, none);
  }

  @Override
  public Void visitAnnotation(AnnotationTree tree, Void none) {
    breach(4, "an annotation", tree);
    return super.visitAnnotation(tree, none);
  }

  @Override
  public Void visitInstanceOf(InstanceOfTree tree, Void none) {
    breach(6, "instanceof", tree);
    return super.visitInstanceOf(tree, none);
  }

  @Override
  public Void visitTypeCast(TypeCastTree tree, Void none) {
    breachIf(!typeOf(tree.getType()).getKind().isPrimitive(), 6, "a cast to a class", tree);
    return super.visitTypeCast(tree, none);
  }

  @Override
  public Void visitBinary(BinaryTree tree, Void none) {
    boolean divides =
        tree.getKind() == Tree.Kind.DIVIDE || tree.getKind() == Tree.Kind.REMAINDER;
    breachIf(divides && !DIVISORS.contains(tree.getRightOperand().toString()), 7,
        "the divisor " + tree.getRightOperand(), tree);
    boolean texts = isText(tree.getLeftOperand()) || isText(tree.getRightOperand());
    breachIf(texts, 10, "texts are joined or compared", tree);
    return super.visitBinary(tree, none);
  }

  @Override
  public Void visitCompoundAssignment(CompoundAssignmentTree tree, Void none) {
    boolean divides = tree.getKind() == Tree.Kind.DIVIDE_ASSIGNMENT
        || tree.getKind() == Tree.Kind.REMAINDER_ASSIGNMENT;
    breachIf(divides, 7, "a divisor", tree);
    breachIf(isText(tree.getVariable()), 10, "texts are joined", tree);
    return super.visitCompoundAssignment(tree, none);
  }

  private boolean isText(Tree tree) {
    return TEXTS.contains(String.valueOf(typeOf(tree)));
  }

  @Override
  public Void visitLiteral(LiteralTree tree, Void none) {
    String text = String.valueOf(tree.getValue());
    for (char character : text.toCharArray()) {
      breachIf(character < 1 || character > 127, 4, "the sign " + (int) character, tree);
    }
    return super.visitLiteral(tree, none);
  }
}
