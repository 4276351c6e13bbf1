import com.sun.source.tree.AssertTree;
import com.sun.source.tree.BinaryTree;
import com.sun.source.tree.BlockTree;
import com.sun.source.tree.CatchTree;
import com.sun.source.tree.ClassTree;
import com.sun.source.tree.CompilationUnitTree;
import com.sun.source.tree.CompoundAssignmentTree;
import com.sun.source.tree.ImportTree;
import com.sun.source.tree.LambdaExpressionTree;
import com.sun.source.tree.MemberReferenceTree;
import com.sun.source.tree.MethodInvocationTree;
import com.sun.source.tree.MethodTree;
import com.sun.source.tree.NewClassTree;
import com.sun.source.tree.SynchronizedTree;
import com.sun.source.tree.ThrowTree;
import com.sun.source.tree.Tree;
import com.sun.source.tree.TryTree;
import com.sun.source.tree.TypeCastTree;
import com.sun.source.tree.VariableTree;
import com.sun.source.util.JavacTask;
import com.sun.source.util.TreePath;
import com.sun.source.util.TreePathScanner;
import com.sun.source.util.Trees;
import java.io.File;
import java.util.ArrayDeque;
import java.util.Deque;
import java.util.HashMap;
import java.util.HashSet;
import java.util.List;
import java.util.Map;
import java.util.Set;
import java.util.TreeSet;
import javax.lang.model.element.Element;
import javax.lang.model.element.ElementKind;
import javax.lang.model.element.ExecutableElement;
import javax.lang.model.element.Modifier;
import javax.lang.model.element.TypeElement;
import javax.lang.model.type.TypeMirror;
import javax.tools.JavaCompiler;
import javax.tools.StandardJavaFileManager;
import javax.tools.ToolProvider;

/** Holds the program against those rules of LANGUAGE.md that can be seen in its text; each is told by its number. */
public final class LanguageRules extends TreePathScanner<Void, Void> {
    private static final Check CHECK = new Check();
    private static final String PROGRAM = "src/main/java/KeySteward.java";
    private static final Set<String> FACE = Set.of("<init>", "feed", "end", "send", "open", "isOpen", "out", "outAt",
            "take", "pass", "now", "fuse", "crash", "restart", "rewrite", "log", "logAt", "tear", "isUp", "total");
    private static final Set<String> LIBRARY = Set.of("String.length", "String.charAt", "String.isEmpty",
            "String.equals", "String.indexOf", "String.substring", "String.toCharArray", "System.arraycopy",
            "Arrays.copyOf", "Arrays.copyOfRange", "Arrays.fill", "Math.max", "Math.min", "Math.abs", "Math.floorDiv",
            "Math.floorMod", "Integer.bitCount", "Integer.compare", "Long.compare");
    private static final Set<String> THROWN = Set.of("IllegalStateException", "IllegalArgumentException",
            "IndexOutOfBoundsException", "ArithmeticException", "UnsupportedOperationException",
            "NoSuchElementException", "RuntimeException");
    private static final Set<String> NUMBERS = Set.of("int", "long", "short", "byte", "char", "boolean");

    private final Trees trees;
    private final CompilationUnitTree unit;
    private final Deque<String> methods = new ArrayDeque<>();
    private final Map<String, Set<String>> calls = new HashMap<>();
    private final Set<String> own = new HashSet<>();
    private int classes;

    private LanguageRules(Trees trees, CompilationUnitTree unit) {
        this.trees = trees;
        this.unit = unit;
    }

    private long line(Tree tree) {
        return unit.getLineMap().getLineNumber(trees.getSourcePositions().getStartPosition(unit, tree));
    }

    private long lastLine(Tree tree) {
        return unit.getLineMap().getLineNumber(trees.getSourcePositions().getEndPosition(unit, tree));
    }

    private void rule(int number, Tree tree, boolean holds, String what) {
        CHECK.due("rule " + number + ", line " + line(tree) + ": " + what, holds, true);
    }

    private static boolean isOwn(Element element) {
        for (Element e = element; e != null; e = e.getEnclosingElement()) {
            if (e.getSimpleName().contentEquals("KeySteward")) {
                return true;
            }
        }
        return false;
    }

    @Override
    public Void visitImport(ImportTree tree, Void none) {
        String name = tree.getQualifiedIdentifier().toString();
        rule(4, tree, !tree.isStatic() && Set.of("java.util.Arrays", "java.util.NoSuchElementException",
                "java.util.ArrayList", "java.util.List").contains(name), name);
        return super.visitImport(tree, none);
    }

    @Override
    public Void visitClass(ClassTree tree, Void none) {
        classes++;
        Set<Modifier> marks = tree.getModifiers().getFlags();
        boolean outer = tree.getSimpleName().contentEquals("KeySteward");
        TypeElement type = (TypeElement) trees.getElement(getCurrentPath());
        rule(1, tree, outer ? marks.containsAll(Set.of(Modifier.PUBLIC, Modifier.FINAL))
                : !marks.contains(Modifier.PUBLIC) && !marks.contains(Modifier.PROTECTED), "who sees a class");
        rule(1, tree, outer || type.getModifiers().contains(Modifier.STATIC), "a class inside is static");
        rule(2, tree, outer || type.getEnclosingElement().getKind().isClass(), "no local class");
        int fields = 0;
        for (Tree member : tree.getMembers()) {
            if (member instanceof BlockTree) {
                rule(5, member, false, "no block that makes static fields");
            }
            if (member instanceof VariableTree field && !field.getModifiers().getFlags().contains(Modifier.STATIC)) {
                fields++;
            }
        }
        rule(11, tree, fields <= 20, fields + " fields");
        if (tree.getKind() == Tree.Kind.ENUM) {
            enumFields(tree);
        }
        return super.visitClass(tree, none);
    }

    private void enumFields(ClassTree tree) {
        for (Tree member : tree.getMembers()) {
            if (member instanceof VariableTree field && !field.getModifiers().getFlags().contains(Modifier.STATIC)) {
                rule(2, field, Set.of("int", "long", "boolean", "String").contains(field.getType().toString()),
                        "an enum's field of " + field.getType());
            }
        }
    }

    @Override
    public Void visitVariable(VariableTree tree, Void none) {
        Element element = trees.getElement(getCurrentPath());
        TypeMirror type = element.asType();
        String name = type.toString();
        boolean constant = element.getKind() == ElementKind.ENUM_CONSTANT;
        rule(3, tree, allowed(name), "type " + name);
        if (element.getKind() == ElementKind.FIELD && element.getModifiers().contains(Modifier.STATIC)) {
            boolean kept = tree.getInitializer() != null && tree.getInitializer().toString().equals("values()");
            rule(5, tree, element.getModifiers().contains(Modifier.FINAL) && (NUMBERS.contains(name)
                    || name.equals("java.lang.String") || kept), "static " + tree.getName());
        }
        if (element.getKind() == ElementKind.FIELD && !constant) {
            boolean outer = element.getEnclosingElement().getSimpleName().contentEquals("KeySteward");
            rule(1, tree, !outer || element.getModifiers().contains(Modifier.PRIVATE)
                    || tree.getName().contentEquals("NONE"), "who sees " + tree.getName());
        }
        return super.visitVariable(tree, none);
    }

    private static boolean allowed(String type) {
        String bare = type.endsWith("[]") ? type.substring(0, type.length() - 2) : type;
        return NUMBERS.contains(bare) || bare.equals("java.lang.String") && !type.endsWith("[]")
                || bare.equals("KeySteward") || bare.startsWith("KeySteward.");
    }

    @Override
    public Void visitMethod(MethodTree tree, Void none) {
        ExecutableElement element = (ExecutableElement) trees.getElement(getCurrentPath());
        String name = tree.getName().toString();
        boolean outer = element.getEnclosingElement().getSimpleName().contentEquals("KeySteward");
        Set<Modifier> marks = element.getModifiers();
        rule(1, tree, outer ? marks.contains(Modifier.PUBLIC) == FACE.contains(name) && (marks.contains(Modifier.PUBLIC)
                || marks.contains(Modifier.PRIVATE)) : name.equals("<init>") || !FACE.contains(name), "name " + name);
        rule(6, tree, !Set.of("equals", "hashCode", "toString").contains(name), "no " + name + " of one's own");
        rule(11, tree, tree.getParameters().size() <= 7, "parameters of " + name);
        if (trees.getSourcePositions().getStartPosition(unit, tree) >= 0) {
            rule(11, tree, lastLine(tree) - line(tree) < 60, "lines of " + name);
        }
        methods.push(nameOf(element));
        own.add(nameOf(element));
        super.visitMethod(tree, none);
        methods.pop();
        return null;
    }

    private static String nameOf(Element method) {
        return method.getEnclosingElement() + "." + method;
    }

    @Override
    public Void visitMethodInvocation(MethodInvocationTree tree, Void none) {
        Element called = trees.getElement(new TreePath(getCurrentPath(), tree.getMethodSelect()));
        String owner = called.getEnclosingElement().getSimpleName().toString();
        String name = called.getSimpleName().toString();
        boolean implied = name.equals("<init>") || name.equals("values") && owner.equals("Command");
        if (!isOwn(called)) {
            rule(4, tree, implied || LIBRARY.contains(owner + "." + name), owner + "." + name);
        } else if (!methods.isEmpty()) {
            calls.computeIfAbsent(methods.peek(), key -> new TreeSet<>()).add(nameOf(called));
            rule(12, tree, !name.equals("values"), "values() is kept once");
        }
        return super.visitMethodInvocation(tree, none);
    }

    @Override
    public Void visitNewClass(NewClassTree tree, Void none) {
        Element made = trees.getElement(getCurrentPath());
        String type = made.getEnclosingElement().getSimpleName().toString();
        rule(2, tree, tree.getClassBody() == null, "no anonymous class");
        if (isOwn(made)) {
            if (!methods.isEmpty()) {
                calls.computeIfAbsent(methods.peek(), key -> new TreeSet<>()).add(nameOf(made));
            }
        } else {
            rule(4, tree, THROWN.contains(type), "new " + type);
        }
        return super.visitNewClass(tree, none);
    }

    @Override
    public Void visitThrow(ThrowTree tree, Void none) {
        boolean made = tree.getExpression() instanceof NewClassTree fresh
                && THROWN.contains(fresh.getIdentifier().toString());
        rule(6, tree, made && !methods.isEmpty() && !methods.peek().contains("<init>"), "throw");
        rule(6, tree, methods.peek().contains("outAt(") || methods.peek().contains("logAt("), "a throw nobody told");
        return super.visitThrow(tree, none);
    }

    @Override
    public Void visitTry(TryTree tree, Void none) {
        rule(6, tree, tree.getFinallyBlock() == null && tree.getResources().isEmpty(), "try");
        return super.visitTry(tree, none);
    }

    @Override
    public Void visitCatch(CatchTree tree, Void none) {
        rule(6, tree, false, "nothing is caught, as no method that is called throws");
        return super.visitCatch(tree, none);
    }

    @Override
    public Void visitSynchronized(SynchronizedTree tree, Void none) {
        rule(6, tree, false, "synchronized");
        return super.visitSynchronized(tree, none);
    }

    @Override
    public Void visitAssert(AssertTree tree, Void none) {
        rule(6, tree, false, "assert");
        return super.visitAssert(tree, none);
    }

    @Override
    public Void visitLambdaExpression(LambdaExpressionTree tree, Void none) {
        rule(2, tree, false, "lambda");
        return super.visitLambdaExpression(tree, none);
    }

    @Override
    public Void visitMemberReference(MemberReferenceTree tree, Void none) {
        rule(2, tree, false, "reference of a method");
        return super.visitMemberReference(tree, none);
    }

    @Override
    public Void visitTypeCast(TypeCastTree tree, Void none) {
        rule(6, tree, NUMBERS.contains(tree.getType().toString()), "casts are of numbers alone");
        return super.visitTypeCast(tree, none);
    }

    private boolean isText(Tree tree) {
        TypeMirror type = trees.getTypeMirror(new TreePath(getCurrentPath(), tree));
        return type != null && type.toString().equals("java.lang.String");
    }

    @Override
    public Void visitBinary(BinaryTree tree, Void none) {
        boolean nullTold = tree.getLeftOperand().getKind() == Tree.Kind.NULL_LITERAL
                || tree.getRightOperand().getKind() == Tree.Kind.NULL_LITERAL;
        boolean texts = isText(tree.getLeftOperand()) || isText(tree.getRightOperand());
        rule(tree.getKind() == Tree.Kind.PLUS ? 10 : 6, tree, !texts || nullTold, "texts joined or compared by a sign");
        return super.visitBinary(tree, none);
    }

    @Override
    public Void visitCompoundAssignment(CompoundAssignmentTree tree, Void none) {
        rule(10, tree, !isText(tree.getVariable()), "texts joined by a sign");
        return super.visitCompoundAssignment(tree, none);
    }

    /** How many calls stand open at once at most; a method that comes to itself is told. */
    private int depth(String method, Deque<String> open) {
        if (open.contains(method)) {
            CHECK.due("rule 8: " + method + " calls itself", true, false);
            return 0;
        }
        open.push(method);
        int most = 0;
        for (String called : calls.getOrDefault(method, Set.of())) {
            if (own.contains(called)) {
                most = Math.max(most, depth(called, open));
            }
        }
        open.pop();
        return 1 + most;
    }

    private void whole() {
        CHECK.due("rule 11: at most twelve classes", classes <= 12, true);
        CHECK.due("methods are found", own.size() > 150, true);
        for (String method : own) {
            int depth = depth(method, new ArrayDeque<>());
            CHECK.due("rule 11: calls at most eight deep from " + method + ", is " + depth, depth <= 8, true);
        }
        CHECK.due("no package line", unit.getPackageName() == null, true);
        CHECK.due("one class in the file", unit.getTypeDecls().size(), 1);
    }

    public static void main(String[] args) throws Exception {
        JavaCompiler compiler = ToolProvider.getSystemJavaCompiler();
        StandardJavaFileManager files = compiler.getStandardFileManager(null, null, null);
        JavacTask task = (JavacTask) compiler.getTask(null, files, null, List.of("--release", "17"), null,
                files.getJavaFileObjects(new File(args.length > 0 ? args[0] : PROGRAM)));
        CompilationUnitTree unit = task.parse().iterator().next();
        task.analyze();
        LanguageRules rules = new LanguageRules(Trees.instance(task), unit);
        rules.scan(unit, null);
        rules.whole();
        CHECK.end();
    }
}
