import com.sun.source.tree.AssertTree;
import com.sun.source.tree.BinaryTree;
import com.sun.source.tree.ClassTree;
import com.sun.source.tree.CompilationUnitTree;
import com.sun.source.tree.CompoundAssignmentTree;
import com.sun.source.tree.ExpressionTree;
import com.sun.source.tree.IdentifierTree;
import com.sun.source.tree.ImportTree;
import com.sun.source.tree.LambdaExpressionTree;
import com.sun.source.tree.LiteralTree;
import com.sun.source.tree.MemberReferenceTree;
import com.sun.source.tree.MemberSelectTree;
import com.sun.source.tree.MethodInvocationTree;
import com.sun.source.tree.MethodTree;
import com.sun.source.tree.NewArrayTree;
import com.sun.source.tree.NewClassTree;
import com.sun.source.tree.SynchronizedTree;
import com.sun.source.tree.ThrowTree;
import com.sun.source.tree.Tree;
import com.sun.source.tree.TryTree;
import com.sun.source.tree.TypeCastTree;
import com.sun.source.tree.VariableTree;
import com.sun.source.util.JavacTask;
import com.sun.source.util.TreePath;
import com.sun.source.util.TreePathScanner;
import com.sun.source.util.Trees;
import java.nio.file.Path;
import java.util.ArrayList;
import java.util.HashMap;
import java.util.LinkedHashSet;
import java.util.List;
import java.util.Map;
import java.util.Set;
import java.util.TreeSet;
import javax.lang.model.element.Element;
import javax.lang.model.element.ElementKind;
import javax.lang.model.element.Modifier;
import javax.lang.model.element.VariableElement;
import javax.lang.model.type.TypeMirror;
import javax.tools.JavaCompiler;
import javax.tools.StandardJavaFileManager;
import javax.tools.ToolProvider;

/** The rules of LANGUAGE.md that a walk over the source can check, with the compiler's own eyes. */
public final class RulesTest extends Checks {
    private static final Path SOURCE = Path.of("src/main/java/SceneBoxes.java");
    private static final int MOST_LINES = 60, MOST_PARAMETERS = 7, MOST_CALLS_DEEP = 8, MOST_CLASSES = 12, MOST_FIELDS = 20;
    /** What the source uses of rule 4; a name that the rule allows can be added here. */
    private static final Set<String> LIBRARY = Set.of("Math.min", "Math.max", "System.arraycopy");
    private static final Set<String> TYPES = Set.of("int", "long", "boolean", "int[]");

    /** Walks the source once; keeps who calls whom, and tells of what the rules leave out. */
    private static final class Walk extends TreePathScanner<Void, Void> {
        private final Trees trees;
        private final CompilationUnitTree unit;
        private final Map<String, Set<String>> calls = new HashMap<>();
        private final Set<String> fromOutside = new TreeSet<>();
        private String method = "";
        private int classes = 0;

        Walk(Trees trees, CompilationUnitTree unit) {
            this.trees = trees;
            this.unit = unit;
        }

        private void sentBack(int rule, String why, Tree at) {
            long line = unit.getLineMap().getLineNumber(trees.getSourcePositions().getStartPosition(unit, at));
            tell("rule " + rule + ", line " + line + ": " + why);
        }

        private Element element() {
            return trees.getElement(getCurrentPath());
        }

        private static boolean isOwn(Element e) {
            Element top = e;
            while (top.getEnclosingElement() != null && top.getEnclosingElement().getKind() != ElementKind.PACKAGE) {
                top = top.getEnclosingElement();
            }
            return top.getSimpleName().contentEquals("SceneBoxes");
        }

        private static String nameOf(Element e) {
            return e.getEnclosingElement().getSimpleName() + "." + e.getSimpleName();
        }

        private void keepCall(Element called, Tree at) {
            if (!isOwn(called) && !LIBRARY.contains(nameOf(called))) {
                sentBack(4, nameOf(called) + " is not in the list", at);
            }
            calls.computeIfAbsent(method, k -> new LinkedHashSet<>()).add(nameOf(called));
        }

        @Override public Void visitMethodInvocation(MethodInvocationTree t, Void v) {
            Element called = element();
            // The compiler gives each constructor a call of Object's own.
            if (!nameOf(called).equals("Object.<init>")) {
                keepCall(called, t);
            }
            return super.visitMethodInvocation(t, v);
        }

        @Override public Void visitNewClass(NewClassTree t, Void v) {
            keepCall(element(), t);
            if (t.getClassBody() != null) {
                sentBack(2, "an anonymous class", t);
            }
            onlyInConstructors(t);
            return super.visitNewClass(t, v);
        }

        @Override public Void visitNewArray(NewArrayTree t, Void v) {
            onlyInConstructors(t);
            return super.visitNewArray(t, v);
        }

        /** Rule 12 allows more; the class makes all it needs at once, so that no call fills the room. */
        private void onlyInConstructors(Tree t) {
            if (!method.isEmpty() && !method.endsWith(".<init>")) {
                sentBack(12, "made in " + method, t);
            }
        }

        @Override public Void visitMethod(MethodTree t, Void v) {
            Element e = element();
            method = nameOf(e);
            calls.computeIfAbsent(method, k -> new LinkedHashSet<>());
            if (e.getModifiers().contains(Modifier.PUBLIC)) {
                fromOutside.add(method);
            }
            long first = unit.getLineMap().getLineNumber(trees.getSourcePositions().getStartPosition(unit, t));
            long end = trees.getSourcePositions().getEndPosition(unit, t);
            // The end of a constructor that the compiler adds is nowhere.
            if (end > 0 && unit.getLineMap().getLineNumber(end) - first >= MOST_LINES) {
                sentBack(11, method + " is long", t);
            }
            if (t.getParameters().size() > MOST_PARAMETERS) {
                sentBack(11, method + " has many parameters", t);
            }
            super.visitMethod(t, v);
            method = "";
            return null;
        }

        @Override public Void visitClass(ClassTree t, Void v) {
            Element e = element();
            classes++;
            boolean isStatic = e.getModifiers().contains(Modifier.STATIC);
            if (e.getEnclosingElement().getKind() != ElementKind.PACKAGE && !isStatic) {
                sentBack(2, "not static: " + e, t);
            }
            int fields = 0;
            for (Element inside : e.getEnclosedElements()) {
                boolean own = inside.getKind() == ElementKind.FIELD && !inside.getModifiers().contains(Modifier.STATIC);
                fields += own ? 1 : 0;
            }
            if (fields > MOST_FIELDS) {
                sentBack(11, fields + " fields: " + e, t);
            }
            return super.visitClass(t, v);
        }

        @Override public Void visitVariable(VariableTree t, Void v) {
            VariableElement e = (VariableElement) element();
            Set<Modifier> modifiers = e.getModifiers();
            if (modifiers.contains(Modifier.STATIC) && (!modifiers.contains(Modifier.FINAL) || e.getConstantValue() == null)) {
                sentBack(5, "not a constant: " + e, t);
            }
            TypeMirror type = e.asType();
            if (!TYPES.contains(type.toString()) && !type.toString().startsWith("SceneBoxes.")) {
                sentBack(3, "the type " + type, t);
            }
            return super.visitVariable(t, v);
        }

        @Override public Void visitMemberSelect(MemberSelectTree t, Void v) {
            Element e = element();
            if (e.getKind() == ElementKind.FIELD && !isOwn(e)) {
                sentBack(4, "the library's " + t, t);
            }
            return super.visitMemberSelect(t, v);
        }

        @Override public Void visitBinary(BinaryTree t, Void v) {
            boolean divides = t.getKind() == Tree.Kind.DIVIDE || t.getKind() == Tree.Kind.REMAINDER;
            if (divides && !isSafeDivisor(t.getRightOperand())) {
                sentBack(7, "a divisor that may be 0", t);
            }
            return super.visitBinary(t, v);
        }

        @Override public Void visitCompoundAssignment(CompoundAssignmentTree t, Void v) {
            boolean divides = t.getKind() == Tree.Kind.DIVIDE_ASSIGNMENT || t.getKind() == Tree.Kind.REMAINDER_ASSIGNMENT;
            if (divides && !isSafeDivisor(t.getExpression())) {
                sentBack(7, "a divisor that may be 0", t);
            }
            return super.visitCompoundAssignment(t, v);
        }

        private boolean isSafeDivisor(ExpressionTree by) {
            Object value = null;
            if (by instanceof LiteralTree literal) {
                value = literal.getValue();
            } else if (by instanceof IdentifierTree
                    && trees.getElement(new TreePath(getCurrentPath(), by)) instanceof VariableElement constant) {
                value = constant.getConstantValue();
            }
            return value instanceof Integer number && number != 0;
        }

        @Override public Void visitThrow(ThrowTree t, Void v) {
            sentBack(6, "throw", t);
            return super.visitThrow(t, v);
        }

        @Override public Void visitTry(TryTree t, Void v) {
            sentBack(6, "try", t);
            return super.visitTry(t, v);
        }

        @Override public Void visitSynchronized(SynchronizedTree t, Void v) {
            sentBack(6, "synchronized", t);
            return super.visitSynchronized(t, v);
        }

        @Override public Void visitAssert(AssertTree t, Void v) {
            sentBack(6, "assert", t);
            return super.visitAssert(t, v);
        }

        @Override public Void visitTypeCast(TypeCastTree t, Void v) {
            sentBack(6, "a cast, where none is needed", t);
            return super.visitTypeCast(t, v);
        }

        @Override public Void visitLambdaExpression(LambdaExpressionTree t, Void v) {
            sentBack(2, "a lambda", t);
            return super.visitLambdaExpression(t, v);
        }

        @Override public Void visitMemberReference(MemberReferenceTree t, Void v) {
            sentBack(2, "a method reference", t);
            return super.visitMemberReference(t, v);
        }

        @Override public Void visitImport(ImportTree t, Void v) {
            sentBack(4, "an import, where none is needed", t);
            return super.visitImport(t, v);
        }

        /** The longest chain of calls that a method begins; a chain that comes back to itself has no end. */
        List<String> longestFrom(String start, List<String> above) {
            List<String> chain = new ArrayList<>(above);
            chain.add(start);
            List<String> longest = chain;
            if (above.contains(start)) {
                tell("rule 8: a recursion, " + chain);
                return chain;
            }
            for (String called : calls.getOrDefault(start, Set.of())) {
                List<String> further = longestFrom(called, chain);
                longest = further.size() > longest.size() ? further : longest;
            }
            return longest;
        }
    }

    private static Walk walked() throws Exception {
        JavaCompiler compiler = ToolProvider.getSystemJavaCompiler();
        try (StandardJavaFileManager files = compiler.getStandardFileManager(null, null, null)) {
            JavacTask task = (JavacTask) compiler.getTask(null, files, null, List.of("-proc:none"), null,
                files.getJavaFileObjects(SOURCE));
            CompilationUnitTree unit = task.parse().iterator().next();
            task.analyze();
            Walk walk = new Walk(Trees.instance(task), unit);
            walk.scan(unit, null);
            due("the number of package lines", unit.getPackageName() == null ? 0 : 1, 0);
            due("the number of classes side by side", unit.getTypeDecls().size(), 1);
            return walk;
        }
    }

    public static void main(String[] args) throws Exception {
        about("LANGUAGE.md");
        Walk walk = walked();
        if (walk.classes > MOST_CLASSES) {
            tell("rule 11: " + walk.classes + " classes");
        }
        due("the methods that can be called from outside", walk.fromOutside.size(), 22);
        for (String start : walk.fromOutside) {
            List<String> chain = walk.longestFrom(start, List.of());
            if (chain.size() > MOST_CALLS_DEEP) {
                tell("rule 11: a chain of " + chain.size() + " calls, " + chain);
            }
        }
        end("the source keeps the rules");
    }
}
