import com.sun.source.tree.AssertTree;
import com.sun.source.tree.BinaryTree;
import com.sun.source.tree.BlockTree;
import com.sun.source.tree.CatchTree;
import com.sun.source.tree.ClassTree;
import com.sun.source.tree.CompilationUnitTree;
import com.sun.source.tree.CompoundAssignmentTree;
import com.sun.source.tree.ExpressionTree;
import com.sun.source.tree.ForLoopTree;
import com.sun.source.tree.ImportTree;
import com.sun.source.tree.LambdaExpressionTree;
import com.sun.source.tree.LiteralTree;
import com.sun.source.tree.MemberReferenceTree;
import com.sun.source.tree.MethodInvocationTree;
import com.sun.source.tree.MethodTree;
import com.sun.source.tree.NewClassTree;
import com.sun.source.tree.SynchronizedTree;
import com.sun.source.tree.ThrowTree;
import com.sun.source.tree.Tree;
import com.sun.source.tree.TryTree;
import com.sun.source.tree.VariableTree;
import com.sun.source.util.TreePathScanner;
import com.sun.source.util.Trees;
import java.util.ArrayList;
import java.util.LinkedHashMap;
import java.util.LinkedHashSet;
import java.util.List;
import java.util.Map;
import java.util.Set;
import java.util.TreeMap;
import java.util.regex.Pattern;
import javax.lang.model.element.Element;
import javax.lang.model.element.ElementKind;
import javax.lang.model.element.ExecutableElement;
import javax.lang.model.element.Modifier;
import javax.lang.model.element.TypeElement;

/** What a compiler's tree tells of the rules of ../shared/LANGUAGE.md: whatever breaks one, behind its number. */
final class LanguageRules extends TreePathScanner<Void, Void> {
    private static final int MOST_CLASSES = 12;
    private static final int MOST_FIELDS = 20;
    private static final int MOST_PARAMETERS = 7;
    private static final int MOST_LINES = 60;
    private static final int DEEPEST_CALLS = 8;
    private static final String NUMBER = "int|long|short|byte|char|boolean|double|float";
    private static final Set<String> IMPORTS = Set.of("java.util.ArrayList", "java.util.List", "java.util.Iterator",
            "java.util.Arrays", "java.util.NoSuchElementException");
    private static final Set<String> EXCEPTIONS = Set.of("IllegalStateException", "IllegalArgumentException",
            "IndexOutOfBoundsException", "ArithmeticException", "UnsupportedOperationException",
            "NoSuchElementException", "RuntimeException");
    private static final Pattern LIBRARY = Pattern.compile("java\\.util\\.(ArrayList|List)\\.("
            + "add|get|set|size|isEmpty|clear|remove\\(int\\)|of)"
            + "|java\\.lang\\.String\\.(length|charAt|isEmpty|equals|indexOf\\(int\\)|substring|toCharArray)"
            + "|java\\.lang\\.StringBuilder\\.(append|charAt|setCharAt|setLength|deleteCharAt|reverse|length|toString)"
            + "|java\\.lang\\.(Math|Integer|Long)\\.(?!\\w*Exact)\\w+"
            + "|java\\.util\\.Arrays\\.(copyOf|copyOfRange|fill)|java\\.lang\\.System\\.arraycopy");
    private static final Pattern MADE = Pattern.compile("java\\.util\\.ArrayList|java\\.lang\\.(String|StringBuilder)");

    private final Trees trees;
    private final CompilationUnitTree unit;
    private final Map<Integer, List<String>> found = new TreeMap<>();
    private final Map<Element, Set<Element>> calls = new LinkedHashMap<>();
    private final Set<String> ownClasses = new LinkedHashSet<>();
    private Element method = null;

    LanguageRules(Trees trees, CompilationUnitTree unit) {
        this.trees = trees;
        this.unit = unit;
    }

    /** By the rules' numbers; empty if all is well. */
    Map<Integer, List<String>> check() {
        new TreePathScanner<Void, Void>() {
            @Override
            public Void visitClass(ClassTree tree, Void unused) {
                ownClasses.add(tree.getSimpleName().toString());
                return super.visitClass(tree, unused);
            }
        }.scan(unit, null);
        expect(ownClasses.size() <= MOST_CLASSES, 11, unit, "classes: " + ownClasses.size());
        scan(unit, null);
        for (Element caller : calls.keySet()) {
            checkDepth(caller, new ArrayList<>());
        }
        return found;
    }

    private void expect(boolean holds, int rule, Tree where, String what) {
        if (!holds) {
            long line = unit.getLineMap().getLineNumber(trees.getSourcePositions().getStartPosition(unit, where));
            found.computeIfAbsent(rule, unused -> new ArrayList<>()).add("line " + line + ": " + what);
        }
    }

    /** Rule 8 would let a method call itself under a guard; this class needs none that does. */
    private void checkDepth(Element caller, List<Element> open) {
        if (open.contains(caller)) {
            found.computeIfAbsent(8, unused -> new ArrayList<>()).add("a call of itself: " + open);
            return;
        }
        open.add(caller);
        if (open.size() > DEEPEST_CALLS) {
            found.computeIfAbsent(11, unused -> new ArrayList<>()).add("calls too deep: " + open);
        } else {
            for (Element called : calls.getOrDefault(caller, Set.of())) {
                checkDepth(called, open);
            }
        }
        open.remove(open.size() - 1);
    }

    private Element here() {
        return trees.getElement(getCurrentPath());
    }

    private boolean isText(Tree part) {
        return "java.lang.String".equals(String.valueOf(trees.getTypeMirror(trees.getPath(unit, part))));
    }

    @Override
    public Void visitImport(ImportTree tree, Void unused) {
        expect(IMPORTS.contains(tree.getQualifiedIdentifier().toString()), 4, tree, tree.toString().strip());
        return super.visitImport(tree, unused);
    }

    @Override
    public Void visitClass(ClassTree tree, Void unused) {
        boolean isLocal = getCurrentPath().getParentPath().getLeaf().getKind() == Tree.Kind.BLOCK;
        expect(!isLocal, 2, tree, "a local class " + tree.getSimpleName());
        long fields = tree.getMembers().stream().filter(member -> member instanceof VariableTree)
                .filter(member -> !((VariableTree) member).getModifiers().getFlags().contains(Modifier.STATIC)).count();
        expect(fields <= MOST_FIELDS, 11, tree, "fields of " + tree.getSimpleName() + ": " + fields);
        for (Tree member : tree.getMembers()) {
            boolean isInitialiser = member instanceof BlockTree && ((BlockTree) member).isStatic();
            expect(!isInitialiser, 5, member, "a static initialiser block");
        }
        return super.visitClass(tree, unused);
    }

    @Override
    public Void visitMethod(MethodTree tree, Void unused) {
        Element outer = method;
        method = here();
        // The compiler's own constructors stand nowhere.
        if (trees.getSourcePositions().getEndPosition(unit, tree) >= 0) {
            checkMethod(tree);
        }
        super.visitMethod(tree, unused);
        method = outer;
        return null;
    }

    private void checkMethod(MethodTree tree) {
        String name = tree.getName().toString();
        long first = unit.getLineMap().getLineNumber(trees.getSourcePositions().getStartPosition(unit, tree));
        long last = unit.getLineMap().getLineNumber(trees.getSourcePositions().getEndPosition(unit, tree));
        expect(last - first < MOST_LINES, 11, tree, "lines of " + name + ": " + (last - first + 1));
        expect(tree.getParameters().size() <= MOST_PARAMETERS, 11, tree, "parameters of " + name);
        expect(!name.matches("equals|hashCode|toString"), 6, tree, "an own " + name);
        if (tree.getReturnType() != null) {
            checkType(tree.getReturnType());
        }
    }

    @Override
    public Void visitVariable(VariableTree tree, Void unused) {
        checkType(tree.getType());
        Set<Modifier> flags = tree.getModifiers().getFlags();
        boolean isStaticState = flags.contains(Modifier.STATIC) && !flags.contains(Modifier.FINAL);
        expect(!isStaticState, 5, tree, "a static field that is not final: " + tree.getName());
        return super.visitVariable(tree, unused);
    }

    private void checkType(Tree type) {
        String own = String.join("|", ownClasses);
        boolean isAllowed = type.toString().matches("void|(" + NUMBER + ")(\\[]){0,2}|String|StringBuilder|Integer|("
                + own + ")(\\[])?|(ArrayList|List|Iterator|Iterable)<(" + own + "|Integer)>");
        expect(isAllowed, 3, type, "the type " + type);
    }

    @Override
    public Void visitMethodInvocation(MethodInvocationTree tree, Void unused) {
        ExecutableElement called = (ExecutableElement) here();
        if (called.getKind() != ElementKind.CONSTRUCTOR) {
            checkCall(called, tree);
        }
        return super.visitMethodInvocation(tree, unused);
    }

    private void checkCall(ExecutableElement called, Tree where) {
        String name = ((TypeElement) called.getEnclosingElement()).getQualifiedName() + "." + called.getSimpleName();
        String withTypes = name + called.getParameters().stream().map(p -> p.asType().toString()).toList().toString()
                .replace('[', '(').replace(']', ')');
        boolean isOwn = name.startsWith("OpenFloors");
        if (isOwn && method != null) {
            calls.computeIfAbsent(method, caller -> new LinkedHashSet<>()).add(called);
        }
        boolean isAllowed = LIBRARY.matcher(name).matches() || LIBRARY.matcher(withTypes).matches();
        expect(isOwn || isAllowed, 4, where, "a call of " + withTypes);
        boolean isOfNumbers = called.getReturnType().toString().matches("int|long");
        expect(!name.startsWith("java.lang.Math.") || isOfNumbers, 3, where, "Math on doubles or floats");
    }

    @Override
    public Void visitNewClass(NewClassTree tree, Void unused) {
        ExecutableElement made = (ExecutableElement) here();
        String name = ((TypeElement) made.getEnclosingElement()).getQualifiedName().toString();
        String simple = made.getEnclosingElement().getSimpleName().toString();
        boolean isOwn = name.startsWith("OpenFloors");
        if (isOwn && method != null) {
            calls.computeIfAbsent(method, caller -> new LinkedHashSet<>()).add(made);
        }
        expect(isOwn || MADE.matcher(name).matches() || EXCEPTIONS.contains(simple), 4, tree, "a new " + name);
        return super.visitNewClass(tree, unused);
    }

    @Override
    public Void visitThrow(ThrowTree tree, Void unused) {
        ExpressionTree thrown = tree.getExpression();
        boolean isPlain = thrown instanceof NewClassTree && isPlain((NewClassTree) thrown);
        expect(isPlain, 6, tree, "not a new exception of the list with a written text: " + tree);
        boolean inConstructor = method != null && method.getKind() == ElementKind.CONSTRUCTOR;
        expect(!inConstructor, 6, tree, "a throw in a constructor");
        return super.visitThrow(tree, unused);
    }

    private static boolean isPlain(NewClassTree made) {
        boolean isListed = EXCEPTIONS.contains(made.getIdentifier().toString());
        boolean isWritten = made.getArguments().stream().allMatch(argument -> argument instanceof LiteralTree);
        return isListed && isWritten && made.getArguments().size() <= 1;
    }

    @Override
    public Void visitTry(TryTree tree, Void unused) {
        expect(tree.getFinallyBlock() == null && tree.getResources().isEmpty(), 6, tree, "finally or resources");
        return super.visitTry(tree, unused);
    }

    @Override
    public Void visitCatch(CatchTree tree, Void unused) {
        String caught = tree.getParameter().getType().toString();
        expect(EXCEPTIONS.contains(caught), 6, tree, "a catch of " + caught);
        // Not the parameter: an exception is no type that rule 3 knows.
        return scan(tree.getBlock(), unused);
    }

    @Override
    public Void visitLambdaExpression(LambdaExpressionTree tree, Void unused) {
        expect(false, 2, tree, "a lambda");
        return super.visitLambdaExpression(tree, unused);
    }

    @Override
    public Void visitMemberReference(MemberReferenceTree tree, Void unused) {
        expect(false, 2, tree, "a method reference");
        return super.visitMemberReference(tree, unused);
    }

    @Override
    public Void visitSynchronized(SynchronizedTree tree, Void unused) {
        expect(false, 6, tree, "synchronized");
        return super.visitSynchronized(tree, unused);
    }

    @Override
    public Void visitAssert(AssertTree tree, Void unused) {
        expect(false, 6, tree, "an assert");
        return super.visitAssert(tree, unused);
    }

    @Override
    public Void visitForLoop(ForLoopTree tree, Void unused) {
        expect(tree.getCondition() != null, 9, tree, "a loop without an end");
        return super.visitForLoop(tree, unused);
    }

    @Override
    public Void visitBinary(BinaryTree tree, Void unused) {
        expect(tree.getKind() != Tree.Kind.PLUS || !isText(tree), 10, tree, "texts joined by +");
        return super.visitBinary(tree, unused);
    }

    @Override
    public Void visitCompoundAssignment(CompoundAssignmentTree tree, Void unused) {
        expect(!isText(tree.getVariable()), 10, tree, "texts joined by +=");
        return super.visitCompoundAssignment(tree, unused);
    }
}
