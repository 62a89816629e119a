import com.sun.source.tree.AssertTree;
import com.sun.source.tree.BinaryTree;
import com.sun.source.tree.ClassTree;
import com.sun.source.tree.CompilationUnitTree;
import com.sun.source.tree.ExpressionTree;
import com.sun.source.tree.ImportTree;
import com.sun.source.tree.LambdaExpressionTree;
import com.sun.source.tree.MemberReferenceTree;
import com.sun.source.tree.MethodInvocationTree;
import com.sun.source.tree.MethodTree;
import com.sun.source.tree.NewArrayTree;
import com.sun.source.tree.NewClassTree;
import com.sun.source.tree.SynchronizedTree;
import com.sun.source.tree.ThrowTree;
import com.sun.source.tree.Tree;
import com.sun.source.tree.TryTree;
import com.sun.source.tree.VariableTree;
import com.sun.source.util.JavacTask;
import com.sun.source.util.TreePath;
import com.sun.source.util.TreePathScanner;
import com.sun.source.util.Trees;
import java.io.File;
import java.util.ArrayList;
import java.util.HashMap;
import java.util.HashSet;
import java.util.LinkedHashSet;
import java.util.List;
import java.util.Map;
import java.util.Set;
import javax.lang.model.element.Element;
import javax.lang.model.element.ExecutableElement;
import javax.lang.model.element.Modifier;
import javax.lang.model.type.TypeMirror;
import javax.tools.JavaCompiler;
import javax.tools.StandardJavaFileManager;
import javax.tools.ToolProvider;

/** The rules of LANGUAGE.md that can be read off the program's tree. */
public final class LanguageRules extends TreePathScanner<Void, Void> {
    private static final Set<String> LIBRARY = Set.of(
            "java.lang.String.length", "java.lang.String.charAt", "java.lang.System.arraycopy",
            "java.util.Arrays.fill", "java.lang.Math.max", "java.lang.Math.min",
            "java.lang.Integer.bitCount");
    private static final int DEEPEST = 8;

    private final CompilationUnitTree unit;
    private final Trees trees;
    private final List<String> wrong = new ArrayList<>();
    private final Map<Element, Set<Element>> calls = new HashMap<>();
    private final Set<String> publicNames = new HashSet<>();
    private final Set<Element> publicMethods = new LinkedHashSet<>();
    private int classes = 0;

    private LanguageRules(CompilationUnitTree unit, Trees trees) {
        this.unit = unit;
        this.trees = trees;
    }

    public static void main(String[] args) throws Exception {
        JavaCompiler compiler = ToolProvider.getSystemJavaCompiler();
        StandardJavaFileManager files = compiler.getStandardFileManager(null, null, null);
        JavacTask task = (JavacTask) compiler.getTask(null, files, null, List.of("-proc:none"), null,
                files.getJavaFileObjects(new File("src/main/java/PoleRiver.java")));
        CompilationUnitTree unit = task.parse().iterator().next();
        task.analyze();
        LanguageRules rules = new LanguageRules(unit, Trees.instance(task));
        rules.findPublicNames();
        rules.scan(unit, null);
        rules.judgeDepth();
        for (String line : rules.wrong) {
            System.out.println("LANGUAGE: " + line);
        }
        System.exit(rules.wrong.isEmpty() ? 0 : 1);
    }

    private void findPublicNames() {
        for (Tree member : ((ClassTree) unit.getTypeDecls().get(0)).getMembers()) {
            if (member instanceof MethodTree m
                    && m.getModifiers().getFlags().contains(Modifier.PUBLIC)) {
                publicNames.add(m.getName().toString());
            }
        }
        if (unit.getTypeDecls().size() != 1 || unit.getPackageName() != null) {
            wrong.add("one class and no package (1)");
        }
    }

    private void blame(Tree at, String why) {
        long line = unit.getLineMap().getLineNumber(trees.getSourcePositions().getStartPosition(unit, at));
        wrong.add("line " + line + ": " + why);
    }

    private long linesOf(Tree tree) {
        long begin = trees.getSourcePositions().getStartPosition(unit, tree);
        long end = trees.getSourcePositions().getEndPosition(unit, tree);
        return unit.getLineMap().getLineNumber(end) - unit.getLineMap().getLineNumber(begin) + 1;
    }

    private ClassTree enclosingClass() {
        for (TreePath path = getCurrentPath().getParentPath(); path != null; path = path.getParentPath()) {
            if (path.getLeaf() instanceof ClassTree c) {
                return c;
            }
        }
        return null;
    }

    private MethodTree enclosingMethod() {
        for (TreePath path = getCurrentPath(); path != null; path = path.getParentPath()) {
            if (path.getLeaf() instanceof MethodTree m) {
                return m;
            }
        }
        return null;
    }

    private Element elementOf(Tree tree) {
        return trees.getElement(TreePath.getPath(unit, tree));
    }

    @Override
    public Void visitClass(ClassTree tree, Void v) {
        classes++;
        if (classes > 13) {
            blame(tree, "too many classes (11)");
        }
        boolean inside = enclosingClass() != null;
        Set<Modifier> flags = tree.getModifiers().getFlags();
        if (inside && (!flags.contains(Modifier.STATIC) || flags.contains(Modifier.PUBLIC)
                || flags.contains(Modifier.PROTECTED))) {
            blame(tree, "a class inside is static, and private or package-visible (1, 2)");
        }
        int fields = 0;
        for (Tree member : tree.getMembers()) {
            if (member instanceof VariableTree f) {
                judgeField(f, inside);
                fields += f.getModifiers().getFlags().contains(Modifier.STATIC) ? 0 : 1;
            }
        }
        if (fields > 20) {
            blame(tree, fields + " fields (11)");
        }
        return super.visitClass(tree, v);
    }

    private void judgeField(VariableTree field, boolean inside) {
        Set<Modifier> flags = field.getModifiers().getFlags();
        if (flags.contains(Modifier.STATIC) && !flags.contains(Modifier.FINAL)) {
            blame(field, "a static field that is not final (5)");
        }
        if (!inside && !flags.contains(Modifier.PRIVATE) && !field.getName().contentEquals("NONE")) {
            blame(field, "a field that is not private (1)");
        }
    }

    @Override
    public Void visitMethod(MethodTree tree, Void v) {
        Element self = elementOf(tree);
        Set<Modifier> flags = tree.getModifiers().getFlags();
        boolean inside = enclosingClass() != unit.getTypeDecls().get(0);
        calls.computeIfAbsent(self, k -> new LinkedHashSet<>());
        if (!inside && flags.contains(Modifier.PUBLIC)) {
            publicMethods.add(self);
        } else if (publicNames.contains(tree.getName().toString()) && !tree.getName().contentEquals("<init>")) {
            blame(tree, "bears the name of a public method (1)");
        } else if (!inside && !flags.contains(Modifier.PRIVATE)) {
            blame(tree, "a method beside the face that is not private (1)");
        }
        if (tree.getParameters().size() > 7) {
            blame(tree, "more than seven parameters (11)");
        }
        if (linesOf(tree) > 60) {
            blame(tree, linesOf(tree) + " lines (11)");
        }
        return super.visitMethod(tree, v);
    }

    @Override
    public Void visitMethodInvocation(MethodInvocationTree tree, Void v) {
        Element called = elementOf(tree);
        String owner = called.getEnclosingElement().toString();
        if (owner.startsWith("PoleRiver")) {
            MethodTree by = enclosingMethod();
            if (by != null) {
                calls.computeIfAbsent(elementOf(by), k -> new LinkedHashSet<>()).add(called);
            }
        } else if (!called.getSimpleName().contentEquals("<init>")
                && !LIBRARY.contains(owner + "." + called.getSimpleName())) {
            blame(tree, "library: " + owner + "." + called.getSimpleName() + " (4)");
        }
        return super.visitMethodInvocation(tree, v);
    }

    @Override
    public Void visitImport(ImportTree tree, Void v) {
        if (!tree.getQualifiedIdentifier().toString().equals("java.util.Arrays")) {
            blame(tree, "import (4)");
        }
        return super.visitImport(tree, v);
    }

    @Override
    public Void visitThrow(ThrowTree tree, Void v) {
        blame(tree, "throw (6)");
        return super.visitThrow(tree, v);
    }

    @Override
    public Void visitTry(TryTree tree, Void v) {
        blame(tree, "try (6)");
        return super.visitTry(tree, v);
    }

    @Override
    public Void visitSynchronized(SynchronizedTree tree, Void v) {
        blame(tree, "synchronized (6)");
        return super.visitSynchronized(tree, v);
    }

    @Override
    public Void visitAssert(AssertTree tree, Void v) {
        blame(tree, "assert (6)");
        return super.visitAssert(tree, v);
    }

    @Override
    public Void visitLambdaExpression(LambdaExpressionTree tree, Void v) {
        blame(tree, "lambda (2)");
        return super.visitLambdaExpression(tree, v);
    }

    @Override
    public Void visitMemberReference(MemberReferenceTree tree, Void v) {
        blame(tree, "method reference (2)");
        return super.visitMemberReference(tree, v);
    }

    @Override
    public Void visitBinary(BinaryTree tree, Void v) {
        if (tree.getKind() == Tree.Kind.PLUS && isText(tree.getLeftOperand())) {
            blame(tree, "texts joined by + (10)");
        }
        return super.visitBinary(tree, v);
    }

    private boolean isText(ExpressionTree tree) {
        TypeMirror type = trees.getTypeMirror(TreePath.getPath(unit, tree));
        return type != null && type.toString().startsWith("java.lang.String");
    }

    @Override
    public Void visitNewClass(NewClassTree tree, Void v) {
        judgeRoom(tree);
        return super.visitNewClass(tree, v);
    }

    @Override
    public Void visitNewArray(NewArrayTree tree, Void v) {
        judgeRoom(tree);
        return super.visitNewArray(tree, v);
    }

    /** The program's own rule: what is made, is made in constructors and with the fields. */
    private void judgeRoom(Tree tree) {
        MethodTree by = enclosingMethod();
        if (by != null && !by.getName().contentEquals("<init>")) {
            blame(tree, "made outside a constructor");
        }
    }

    private void judgeDepth() {
        for (Element method : publicMethods) {
            int deep = depthFrom((ExecutableElement) method, new HashSet<>());
            if (deep > DEEPEST) {
                wrong.add(method + " calls " + deep + " deep (11)");
            }
        }
    }

    /** The longest chain of calls in which none comes twice: recursion counts each method once. */
    private int depthFrom(Element method, Set<Element> open) {
        if (!open.add(method)) {
            return 0;
        }
        int deepest = 0;
        for (Element called : calls.getOrDefault(method, Set.of())) {
            deepest = Math.max(deepest, depthFrom(called, open));
        }
        open.remove(method);
        return deepest + 1;
    }
}
