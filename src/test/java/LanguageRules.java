import com.sun.source.tree.AssertTree;
import com.sun.source.tree.BinaryTree;
import com.sun.source.tree.BlockTree;
import com.sun.source.tree.BreakTree;
import com.sun.source.tree.CatchTree;
import com.sun.source.tree.ClassTree;
import com.sun.source.tree.CompilationUnitTree;
import com.sun.source.tree.CompoundAssignmentTree;
import com.sun.source.tree.DoWhileLoopTree;
import com.sun.source.tree.ExpressionTree;
import com.sun.source.tree.ForLoopTree;
import com.sun.source.tree.IdentifierTree;
import com.sun.source.tree.ImportTree;
import com.sun.source.tree.LambdaExpressionTree;
import com.sun.source.tree.LiteralTree;
import com.sun.source.tree.MemberReferenceTree;
import com.sun.source.tree.MethodInvocationTree;
import com.sun.source.tree.MethodTree;
import com.sun.source.tree.NewClassTree;
import com.sun.source.tree.ReturnTree;
import com.sun.source.tree.SynchronizedTree;
import com.sun.source.tree.ThrowTree;
import com.sun.source.tree.Tree;
import com.sun.source.tree.TryTree;
import com.sun.source.tree.VariableTree;
import com.sun.source.tree.WhileLoopTree;
import com.sun.source.util.TreePathScanner;
import com.sun.source.util.TreeScanner;
import com.sun.source.util.Trees;
import java.util.ArrayList;
import java.util.LinkedHashMap;
import java.util.LinkedHashSet;
import java.util.List;
import java.util.Map;
import java.util.Set;
import java.util.TreeMap;
import java.util.regex.Pattern;
import javax.lang.model.element.Element;
import javax.lang.model.element.ElementKind;
import javax.lang.model.element.ExecutableElement;
import javax.lang.model.element.Modifier;
import javax.lang.model.type.TypeMirror;

/**
 * What a compiler's tree tells of the rules of ../shared/LANGUAGE.md: whatever breaks one, behind its number. It asks
 * no more than the rules do: what they allow passes, though the class may not need it.
 */
final class LanguageRules extends TreePathScanner<Void, Void> {
    // Where a rule says "some", a few more are no breach.
    private static final int MOST_CLASSES = 12 + 3;
    private static final int MOST_FIELDS = 20 + 5;
    private static final int MOST_LINES = 60 + 15;
    private static final int MOST_PARAMETERS = 7;
    // A call of the face, and eight below it.
    private static final int DEEPEST_CALLS = 1 + 8;
    private static final Set<ElementKind> LOCALS = Set.of(
            ElementKind.LOCAL_VARIABLE, ElementKind.PARAMETER, ElementKind.BINDING_VARIABLE);
    private static final Pattern IMPORT = Pattern.compile(
            "java\\.util\\.(\\*|ArrayList|List|Iterator|Arrays|NoSuchElementException)");
    private static final String EXCEPTION = "(java\\.(lang|util)\\.)?(IllegalState|IllegalArgument|IndexOutOfBounds"
            + "|Arithmetic|UnsupportedOperation|NoSuchElement|Runtime)(Exception)";
    private static final Pattern LIBRARY = Pattern.compile("java\\.util\\.(ArrayList|List)\\.("
            + "add|get|set|size|isEmpty|clear|remove\\(int\\)|of|iterator)"
            + "|java\\.lang\\.String\\.(length|charAt|isEmpty|equals|indexOf\\(int\\)|substring|toCharArray)"
            + "|java\\.lang\\.(Abstract)?StringBuilder\\."
            + "(append|charAt|setCharAt|setLength|deleteCharAt|reverse|length|toString)"
            + "|java\\.lang\\.(Math|Integer|Long)\\.(?!\\w*Exact)\\w+|java\\.lang\\.System\\.arraycopy|Array\\.clone"
            + "|java\\.util\\.Arrays\\.(copyOf|copyOfRange|fill)"
            + "|java\\.util\\.Iterator\\.\\w+|java\\.lang\\.Iterable\\.iterator|java\\.lang\\.Comparable\\.compareTo");
    private static final Pattern MADE = Pattern.compile(
            "java\\.util\\.ArrayList|java\\.lang\\.(String|StringBuilder)|" + EXCEPTION);

    private final Trees trees;
    private final CompilationUnitTree unit;
    private final Map<Integer, List<String>> found = new TreeMap<>();
    private final Map<Element, Set<Element>> calls = new LinkedHashMap<>();
    private final Set<Element> throwing = new LinkedHashSet<>();
    private final Set<Element> trying = new LinkedHashSet<>();
    private int classes = 0;
    private Element method = null;

    LanguageRules(Trees trees, CompilationUnitTree unit) {
        this.trees = trees;
        this.unit = unit;
    }

    /** By the rules' numbers; empty if all is well. */
    Map<Integer, List<String>> check() {
        scan(unit, null);
        expect(classes <= MOST_CLASSES, 11, unit, "classes: " + classes);
        for (Element caller : calls.keySet()) {
            checkDepth(caller, new ArrayList<>());
        }
        throwing.retainAll(trying);
        expect(throwing.isEmpty(), 6, unit, "throw and try in one method: " + throwing);
        return found;
    }

    private void expect(boolean holds, int rule, Tree where, String what) {
        if (!holds) {
            long line = unit.getLineMap().getLineNumber(trees.getSourcePositions().getStartPosition(unit, where));
            found.computeIfAbsent(rule, unused -> new ArrayList<>()).add("line " + line + ": " + what);
        }
    }

    /** A call that comes back to itself is recursion: rule 8 asks it for a guard, which is for the reader. */
    private void checkDepth(Element caller, List<Element> open) {
        if (open.contains(caller)) {
            return;
        }
        open.add(caller);
        expect(open.size() <= DEEPEST_CALLS, 11, unit, "calls too deep: " + open);
        if (open.size() <= DEEPEST_CALLS) {
            for (Element called : calls.getOrDefault(caller, Set.of())) {
                checkDepth(called, open);
            }
        }
        open.remove(open.size() - 1);
    }

    private Element here() {
        return trees.getElement(getCurrentPath());
    }

    private TypeMirror typeOf(Tree part) {
        return trees.getTypeMirror(trees.getPath(unit, part));
    }

    private static boolean isOwn(Element part) {
        Element outermost = part;
        while (outermost.getEnclosingElement() != null
                && outermost.getEnclosingElement().getKind() != ElementKind.PACKAGE) {
            outermost = outermost.getEnclosingElement();
        }
        return outermost.getSimpleName().contentEquals("OpenFloors");
    }

    @Override
    public Void visitImport(ImportTree tree, Void unused) {
        String imported = tree.getQualifiedIdentifier().toString();
        expect(IMPORT.matcher(imported).matches(), 4, tree, "an import of " + imported);
        return super.visitImport(tree, unused);
    }

    @Override
    public Void visitClass(ClassTree tree, Void unused) {
        classes++;
        long fields = tree.getMembers().stream().filter(member -> member instanceof VariableTree)
                .filter(member -> !((VariableTree) member).getModifiers().getFlags().contains(Modifier.STATIC)).count();
        expect(fields <= MOST_FIELDS, 11, tree, "fields of " + tree.getSimpleName() + ": " + fields);
        for (Tree member : tree.getMembers()) {
            boolean isInitialiser = member instanceof BlockTree && ((BlockTree) member).isStatic();
            expect(!isInitialiser, 5, member, "a static initialiser block");
        }
        return super.visitClass(tree, unused);
    }

    @Override
    public Void visitMethod(MethodTree tree, Void unused) {
        Element outer = method;
        method = here();
        // The compiler's own constructors stand nowhere.
        if (trees.getSourcePositions().getEndPosition(unit, tree) >= 0) {
            checkMethod(tree);
        }
        super.visitMethod(tree, unused);
        method = outer;
        return null;
    }

    private void checkMethod(MethodTree tree) {
        String name = tree.getName().toString();
        long first = unit.getLineMap().getLineNumber(trees.getSourcePositions().getStartPosition(unit, tree));
        long last = unit.getLineMap().getLineNumber(trees.getSourcePositions().getEndPosition(unit, tree));
        expect(last - first < MOST_LINES, 11, tree, "lines of " + name + ": " + (last - first + 1));
        expect(tree.getParameters().size() <= MOST_PARAMETERS, 11, tree, "parameters of " + name);
        expect(!name.matches("equals|hashCode|toString"), 6, tree, "an own " + name);
        if (tree.getReturnType() != null) {
            TypeMirror type = typeOf(tree.getReturnType());
            expect(LanguageTypes.isAllowed(type), 3, tree, "the type " + type);
        }
    }

    @Override
    public Void visitVariable(VariableTree tree, Void unused) {
        TypeMirror type = typeOf(tree);
        expect(LanguageTypes.isAllowed(type), 3, tree, "the type " + type + " of " + tree.getName());
        Set<Modifier> flags = tree.getModifiers().getFlags();
        if (flags.contains(Modifier.STATIC)) {
            expect(flags.contains(Modifier.FINAL), 5, tree, "a static field that is not final: " + tree.getName());
            expect(LanguageTypes.isAllowedStatic(type), 5, tree, "a static field of the type " + type);
        }
        return super.visitVariable(tree, unused);
    }

    @Override
    public Void visitIdentifier(IdentifierTree tree, Void unused) {
        Element named = here();
        if (named != null) {
            boolean isLocal = LOCALS.contains(named.getKind());
            boolean isCaptured = isLocal && method != null && named.getEnclosingElement() != method;
            expect(!isCaptured, 2, tree, "a local class captures " + tree);
            expect(named.getKind() != ElementKind.EXCEPTION_PARAMETER, 6, tree, "a catch looks at " + tree);
        }
        return super.visitIdentifier(tree, unused);
    }

    @Override
    public Void visitLiteral(LiteralTree tree, Void unused) {
        boolean isText = tree.getValue() instanceof String || tree.getValue() instanceof Character;
        boolean isPlain = !isText || String.valueOf(tree.getValue()).chars().allMatch(sign -> sign > 0 && sign < 128);
        expect(isPlain, 4, tree, "a sign beyond 1 to 127 in " + tree);
        return super.visitLiteral(tree, unused);
    }

    @Override
    public Void visitMethodInvocation(MethodInvocationTree tree, Void unused) {
        ExecutableElement called = (ExecutableElement) here();
        if (called.getKind() != ElementKind.CONSTRUCTOR) {
            checkCall(called, tree);
        }
        return super.visitMethodInvocation(tree, unused);
    }

    private void checkCall(ExecutableElement called, Tree where) {
        rememberCall(called);
        String name = called.getEnclosingElement() + "." + called.getSimpleName();
        String withTypes = called.getEnclosingElement() + "." + called;
        boolean isAllowed = LIBRARY.matcher(name).matches() || LIBRARY.matcher(withTypes).matches();
        expect(isOwn(called) || isAllowed, 4, where, "a call of " + withTypes);
        boolean isOfNumbers = called.getReturnType().toString().matches("int|long");
        expect(!name.startsWith("java.lang.Math.") || isOfNumbers, 3, where, "Math on doubles or floats");
    }

    private void rememberCall(ExecutableElement called) {
        if (isOwn(called) && method != null) {
            calls.computeIfAbsent(method, caller -> new LinkedHashSet<>()).add(called);
        }
    }

    @Override
    public Void visitNewClass(NewClassTree tree, Void unused) {
        ExecutableElement made = (ExecutableElement) here();
        rememberCall(made);
        boolean isAllowed = isOwn(made) || MADE.matcher(made.getEnclosingElement().toString()).matches();
        expect(isAllowed, 4, tree, "a new " + made.getEnclosingElement());
        return super.visitNewClass(tree, unused);
    }

    @Override
    public Void visitThrow(ThrowTree tree, Void unused) {
        ExpressionTree thrown = tree.getExpression();
        boolean isPlain = thrown instanceof NewClassTree && isPlain((NewClassTree) thrown);
        expect(isPlain, 6, tree, "not a new exception of the list with a written text: " + tree);
        boolean inConstructor = method != null && method.getKind() == ElementKind.CONSTRUCTOR;
        expect(!inConstructor, 6, tree, "a throw in a constructor");
        throwing.add(method);
        return super.visitThrow(tree, unused);
    }

    private static boolean isPlain(NewClassTree made) {
        boolean isListed = made.getIdentifier().toString().matches(EXCEPTION);
        boolean isWritten = made.getArguments().stream().allMatch(argument -> argument instanceof LiteralTree);
        return isListed && isWritten && made.getArguments().size() <= 1;
    }

    @Override
    public Void visitTry(TryTree tree, Void unused) {
        expect(tree.getFinallyBlock() == null && tree.getResources().isEmpty(), 6, tree, "finally or resources");
        trying.add(method);
        return super.visitTry(tree, unused);
    }

    @Override
    public Void visitCatch(CatchTree tree, Void unused) {
        for (String caught : tree.getParameter().getType().toString().split(" \\| ")) {
            expect(caught.matches(EXCEPTION), 6, tree, "a catch of " + caught);
        }
        // Not the parameter: an exception is no type that rule 3 knows.
        return scan(tree.getBlock(), unused);
    }

    @Override
    public Void visitLambdaExpression(LambdaExpressionTree tree, Void unused) {
        expect(false, 2, tree, "a lambda");
        return super.visitLambdaExpression(tree, unused);
    }

    @Override
    public Void visitMemberReference(MemberReferenceTree tree, Void unused) {
        expect(false, 2, tree, "a method reference");
        return super.visitMemberReference(tree, unused);
    }

    @Override
    public Void visitSynchronized(SynchronizedTree tree, Void unused) {
        expect(false, 6, tree, "synchronized");
        return super.visitSynchronized(tree, unused);
    }

    @Override
    public Void visitAssert(AssertTree tree, Void unused) {
        expect(false, 6, tree, "an assert");
        return super.visitAssert(tree, unused);
    }

    @Override
    public Void visitForLoop(ForLoopTree tree, Void unused) {
        checkEnd(tree, tree.getCondition());
        return super.visitForLoop(tree, unused);
    }

    @Override
    public Void visitWhileLoop(WhileLoopTree tree, Void unused) {
        checkEnd(tree, tree.getCondition());
        return super.visitWhileLoop(tree, unused);
    }

    @Override
    public Void visitDoWhileLoop(DoWhileLoopTree tree, Void unused) {
        checkEnd(tree, tree.getCondition());
        return super.visitDoWhileLoop(tree, unused);
    }

    /** Whether the end comes in time is for the reader; here there must be one. */
    private void checkEnd(Tree loop, ExpressionTree condition) {
        boolean neverFails = condition == null || condition.toString().matches("\\(*true\\)*");
        expect(!neverFails || hasWayOut(loop), 9, loop, "a loop without an end");
    }

    private static boolean hasWayOut(Tree loop) {
        boolean[] found = {false};
        new TreeScanner<Void, Void>() {
            @Override
            public Void visitBreak(BreakTree tree, Void unused) {
                found[0] = true;
                return null;
            }

            @Override
            public Void visitReturn(ReturnTree tree, Void unused) {
                found[0] = true;
                return null;
            }

            @Override
            public Void visitThrow(ThrowTree tree, Void unused) {
                found[0] = true;
                return null;
            }
        }.scan(loop, null);
        return found[0];
    }

    @Override
    public Void visitBinary(BinaryTree tree, Void unused) {
        expect(tree.getKind() != Tree.Kind.PLUS || !LanguageTypes.isText(typeOf(tree)), 10, tree, "texts joined by +");
        boolean isComparison = tree.getKind() == Tree.Kind.EQUAL_TO || tree.getKind() == Tree.Kind.NOT_EQUAL_TO;
        boolean areObjects = LanguageTypes.isTextOrInteger(typeOf(tree.getLeftOperand()))
                && LanguageTypes.isTextOrInteger(typeOf(tree.getRightOperand()));
        expect(!isComparison || !areObjects, 6, tree, "== or != between texts or Integers");
        return super.visitBinary(tree, unused);
    }

    @Override
    public Void visitCompoundAssignment(CompoundAssignmentTree tree, Void unused) {
        expect(!LanguageTypes.isText(typeOf(tree.getVariable())), 10, tree, "texts joined by +=");
        return super.visitCompoundAssignment(tree, unused);
    }
}
