import com.sun.source.tree.BinaryTree;
import com.sun.source.tree.CompilationUnitTree;
import com.sun.source.tree.CompoundAssignmentTree;
import com.sun.source.tree.ExpressionTree;
import com.sun.source.tree.MethodInvocationTree;
import com.sun.source.tree.MethodTree;
import com.sun.source.tree.NewClassTree;
import com.sun.source.tree.Tree;
import com.sun.source.tree.TypeCastTree;
import com.sun.source.tree.VariableTree;
import com.sun.source.util.JavacTask;
import com.sun.source.util.TreePath;
import com.sun.source.util.TreePathScanner;
import com.sun.source.util.Trees;
import java.io.File;
import java.util.ArrayList;
import java.util.LinkedHashMap;
import java.util.LinkedHashSet;
import java.util.List;
import java.util.Map;
import java.util.Set;
import javax.lang.model.element.ElementKind;
import javax.lang.model.element.ExecutableElement;
import javax.lang.model.element.Modifier;
import javax.lang.model.element.TypeElement;
import javax.lang.model.type.TypeMirror;
import javax.tools.JavaCompiler;
import javax.tools.StandardJavaFileManager;
import javax.tools.ToolProvider;

/** The rules of LANGUAGE.md that can be seen once it is known what each name in the source means. */
public final class CallsTest {
    private static final int DEEPEST = 8;
    private static final String OWN = "LadderClub";
    /** What rule 4 lists, as far as a class without lists can use it. */
    private static final Set<String> LIBRARY = Set.of(
        "Object()", "String.length()", "String.charAt(int)", "String.isEmpty()", "String.equals(java.lang.Object)",
        "String.indexOf(int)", "String.substring(int)", "String.substring(int,int)", "String.toCharArray()", "String(char[])",
        "StringBuilder()", "StringBuilder.append(char)", "StringBuilder.append(java.lang.String)", "StringBuilder.append(int)",
        "StringBuilder.charAt(int)", "StringBuilder.setCharAt(int,char)", "StringBuilder.setLength(int)",
        "StringBuilder.deleteCharAt(int)", "StringBuilder.reverse()", "StringBuilder.length()", "StringBuilder.toString()",
        "Math.abs(int)", "Math.abs(long)", "Math.max(int,int)", "Math.max(long,long)", "Math.min(int,int)", "Math.min(long,long)",
        "Math.floorMod(int,int)", "Math.floorMod(long,long)", "Math.floorDiv(int,int)", "Math.floorDiv(long,long)",
        "Integer.bitCount(int)", "Integer.compare(int,int)", "Long.bitCount(long)", "Long.compare(long,long)",
        "System.arraycopy(java.lang.Object,int,java.lang.Object,int,int)");

    public static void main(String[] args) throws Exception {
        String root = args.length > 0 ? args[0] : ".";
        JavaCompiler compiler = ToolProvider.getSystemJavaCompiler();
        try (StandardJavaFileManager files = compiler.getStandardFileManager(null, null, null)) {
            JavacTask task = (JavacTask) compiler.getTask(null, files, null, null, null,
                files.getJavaFileObjects(new File(root, "src/main/java/LadderClub.java")));
            Iterable<? extends CompilationUnitTree> units = task.parse();
            task.analyze();
            Source source = new Source(task);
            for (CompilationUnitTree unit : units) {
                source.scan(unit, null);
            }
            source.depths();
        }
        Due.end();
    }

    /** Walks through the source; the second argument is the method in which it is, or null. */
    private static final class Source extends TreePathScanner<Void, ExecutableElement> {
        private final JavacTask task;
        private final Trees trees;
        /** By each method those that may run, if it runs. */
        private final Map<ExecutableElement, Set<ExecutableElement>> calls = new LinkedHashMap<>();
        private final List<ExecutableElement[]> virtual = new ArrayList<>();

        Source(JavacTask task) {
            this.task = task;
            this.trees = Trees.instance(task);
        }

        private static boolean isNumber(String type) {
            return Set.of("int", "long", "short", "byte", "char", "boolean", "double", "float").contains(type);
        }

        private static boolean isOwn(String type) {
            return type.equals(OWN) || type.startsWith(OWN + ".");
        }

        private static void type(TypeMirror is, String of) {
            String type = is.toString();
            String one = type.replaceFirst("\\[\\]$", "");
            boolean holds = isNumber(one) || isOwn(one) || isNumber(one.replaceFirst("\\[\\]$", ""))
                || Set.of("void", "java.lang.String", "java.lang.StringBuilder").contains(type);
            Due.due("rule 3: " + type + " of " + of, holds);
        }

        private TypeMirror typeOf(ExpressionTree tree) {
            return trees.getTypeMirror(new TreePath(getCurrentPath(), tree));
        }

        @Override
        public Void visitVariable(VariableTree tree, ExecutableElement in) {
            type(trees.getElement(getCurrentPath()).asType(), tree.getName().toString());
            return super.visitVariable(tree, in);
        }

        @Override
        public Void visitMethod(MethodTree tree, ExecutableElement in) {
            ExecutableElement method = (ExecutableElement) trees.getElement(getCurrentPath());
            calls.put(method, new LinkedHashSet<>());
            type(method.getReturnType(), tree.getName().toString());
            return super.visitMethod(tree, method);
        }

        @Override
        public Void visitMethodInvocation(MethodInvocationTree tree, ExecutableElement in) {
            call(in, !tree.getMethodSelect().toString().startsWith("super"));
            return super.visitMethodInvocation(tree, in);
        }

        @Override
        public Void visitNewClass(NewClassTree tree, ExecutableElement in) {
            call(in, false);
            return super.visitNewClass(tree, in);
        }

        private void call(ExecutableElement in, boolean isVirtual) {
            ExecutableElement called = (ExecutableElement) trees.getElement(getCurrentPath());
            String owner = called.getEnclosingElement().toString();
            if (!isOwn(owner)) {
                String plain = called.getSimpleName().contentEquals("<init>") ? called.toString()
                    : ((TypeElement) called.getEnclosingElement()).getSimpleName() + "." + called;
                Due.due("rule 4: " + owner + ", " + plain, owner.startsWith("java.lang.") && LIBRARY.contains(plain));
            } else if (in != null) {
                calls.get(in).add(called);
                if (isVirtual) {
                    virtual.add(new ExecutableElement[] {in, called});
                }
            }
        }

        /** Objects are compared with null alone here, and nothing is done with texts by an operator. */
        @Override
        public Void visitBinary(BinaryTree tree, ExecutableElement in) {
            boolean ofNumbers = typeOf(tree.getLeftOperand()).getKind().isPrimitive()
                && typeOf(tree.getRightOperand()).getKind().isPrimitive();
            boolean withNull = (tree.getKind() == Tree.Kind.EQUAL_TO || tree.getKind() == Tree.Kind.NOT_EQUAL_TO)
                && tree.getRightOperand().getKind() == Tree.Kind.NULL_LITERAL;
            Due.due("rules 3 and 6: " + tree, ofNumbers || withNull);
            return super.visitBinary(tree, in);
        }

        @Override
        public Void visitCompoundAssignment(CompoundAssignmentTree tree, ExecutableElement in) {
            Due.due("rule 3: " + tree, typeOf(tree.getVariable()).getKind().isPrimitive());
            return super.visitCompoundAssignment(tree, in);
        }

        @Override
        public Void visitTypeCast(TypeCastTree tree, ExecutableElement in) {
            Due.due("rule 6: " + tree, typeOf(tree.getExpression()).getKind().isPrimitive());
            return super.visitTypeCast(tree, in);
        }

        void depths() {
            for (ExecutableElement[] call : virtual) {
                for (ExecutableElement other : calls.keySet()) {
                    if (task.getElements().overrides(other, call[1], (TypeElement) other.getEnclosingElement())) {
                        calls.get(call[0]).add(other);
                    }
                }
            }
            Set<String> open = new LinkedHashSet<>();
            for (ExecutableElement method : calls.keySet()) {
                if (method.getModifiers().contains(Modifier.PUBLIC)) {
                    open.add(method.getSimpleName().toString());
                    List<ExecutableElement> deepest = deepest(method, new ArrayList<>());
                    Due.due("rule 11: " + deepest, deepest.size() <= DEEPEST);
                }
            }
            for (ExecutableElement method : calls.keySet()) {
                boolean hidden = method.getModifiers().contains(Modifier.PRIVATE) && method.getKind() == ElementKind.METHOD;
                Due.due("rule 1: " + method, !hidden || !open.contains(method.getSimpleName().toString()));
            }
        }

        /** The longest way of calls on which no method stands twice. */
        private List<ExecutableElement> deepest(ExecutableElement method, List<ExecutableElement> way) {
            way.add(method);
            List<ExecutableElement> deepest = new ArrayList<>(way);
            for (ExecutableElement called : calls.getOrDefault(method, Set.of())) {
                if (!way.contains(called)) {
                    List<ExecutableElement> longer = deepest(called, way);
                    deepest = longer.size() > deepest.size() ? longer : deepest;
                }
            }
            way.remove(way.size() - 1);
            return deepest;
        }
    }
}
