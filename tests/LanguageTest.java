import com.sun.source.tree.AnnotationTree;
import com.sun.source.tree.AssertTree;
import com.sun.source.tree.ClassTree;
import com.sun.source.tree.CompilationUnitTree;
import com.sun.source.tree.ImportTree;
import com.sun.source.tree.LambdaExpressionTree;
import com.sun.source.tree.MemberReferenceTree;
import com.sun.source.tree.MethodTree;
import com.sun.source.tree.NewClassTree;
import com.sun.source.tree.SynchronizedTree;
import com.sun.source.tree.ThrowTree;
import com.sun.source.tree.Tree;
import com.sun.source.tree.TryTree;
import com.sun.source.tree.VariableTree;
import com.sun.source.util.JavacTask;
import com.sun.source.util.SourcePositions;
import com.sun.source.util.TreeScanner;
import com.sun.source.util.Trees;
import java.io.File;
import java.lang.reflect.Constructor;
import java.lang.reflect.Field;
import java.lang.reflect.Method;
import java.lang.reflect.Modifier;
import java.nio.file.Files;
import java.nio.file.Path;
import java.util.List;
import java.util.Set;
import java.util.TreeSet;
import javax.tools.JavaCompiler;
import javax.tools.StandardJavaFileManager;
import javax.tools.ToolProvider;

/** The face of the class, and the rules of LANGUAGE.md that can be seen from the source. */
public final class LanguageTest {
    private static final String FACE = "int name();int chance(int,int,int);int beats(int,int);int board(int,int);"
        + "int hang(int,int);int far();int feed(long,int);int club();int may(int,int,int);int asker(int,int,int);"
        + "int asks(int,int,int);int match(int,int,int,boolean);int pass(int);long share(int,int,int,int,int);"
        + "long truly(int,int,int);int likely(int,int,int);long mean(int,int,int,int);int stuck(int,int);"
        + "int ought(int,int,int);int row(int);int judged(int,int);long refuse(int,int,int,int);int begin(int,int,int);"
        + "int best(int);int round(int,int);int sorts(int);int past(int,int,int);int really(int);int order(int);"
        + "int run(int,int,int);int act(int,int,int);int trace(int);int as(int,int);int image();int undo();int count(int);";

    public static void main(String[] args) throws Exception {
        face();
        String root = args.length > 0 ? args[0] : ".";
        source(Path.of(root, "src/main/java/LadderClub.java"));
        Due.end();
    }

    private static void face() {
        Set<String> due = new TreeSet<>(List.of(FACE.split(";")));
        Set<String> names = new TreeSet<>();
        Set<String> got = new TreeSet<>();
        for (Method m : LadderClub.class.getDeclaredMethods()) {
            if (Modifier.isPublic(m.getModifiers())) {
                StringBuilder face = new StringBuilder(m.getReturnType() + " " + m.getName() + "(");
                for (Class<?> type : m.getParameterTypes()) {
                    face.append(face.charAt(face.length() - 1) == '(' ? "" : ",").append(type);
                }
                got.add(face.append(")").toString());
                names.add(m.getName());
                Due.due("rule 1: static " + m, !Modifier.isStatic(m.getModifiers()));
            }
        }
        Due.due("rule 1: the methods are " + got, got.equals(due));
        for (Method m : LadderClub.class.getDeclaredMethods()) {
            int how = m.getModifiers();
            Due.due("rule 1: " + m, Modifier.isPublic(how) || Modifier.isPrivate(how) && !names.contains(m.getName()));
        }
        constants();
        for (Constructor<?> c : LadderClub.class.getDeclaredConstructors()) {
            Due.due("rule 1: " + c, Modifier.isPublic(c.getModifiers()) && c.getParameterCount() == 0);
        }
        int how = LadderClub.class.getModifiers();
        Due.due("rule 1: public and final", Modifier.isPublic(how) && Modifier.isFinal(how));
    }

    private static void constants() {
        StringBuilder open = new StringBuilder();
        for (Field f : LadderClub.class.getDeclaredFields()) {
            if (!Modifier.isPrivate(f.getModifiers())) {
                open.append(Modifier.toString(f.getModifiers())).append(' ').append(f.getName()).append(' ');
            }
        }
        String each = "public static final ";
        Due.due("rule 1: the constants are " + open, open.toString().equals(
            each + "NONE " + each + "BAD " + each + "STATE " + each + "FULL " + each + "NO "));
        Due.due("NONE", LadderClub.NONE, -1);
        Due.due("BAD", LadderClub.BAD, -2);
        Due.due("STATE", LadderClub.STATE, -3);
        Due.due("FULL", LadderClub.FULL, -4);
        Due.due("NO", LadderClub.NO, Long.MIN_VALUE);
    }

    private static void source(Path file) throws Exception {
        String text = Files.readString(file);
        Due.due("signs 1 to 127", text.chars().allMatch(c -> c == '\n' || c >= 32 && c < 127));
        JavaCompiler compiler = ToolProvider.getSystemJavaCompiler();
        try (StandardJavaFileManager files = compiler.getStandardFileManager(null, null, null)) {
            JavacTask task = (JavacTask) compiler.getTask(null, files, null, null, null,
                files.getJavaFileObjects(new File(file.toString())));
            for (CompilationUnitTree unit : task.parse()) {
                Rules rules = new Rules(unit, Trees.instance(task).getSourcePositions());
                unit.accept(rules, null);
                Due.due("no package line", unit.getPackage() == null);
                Due.due("rule 11: classes: " + rules.classes, rules.classes <= 12);
            }
        }
    }

    /** Walks through the source and tells what a rule forbids. */
    private static final class Rules extends TreeScanner<Void, Void> {
        private final CompilationUnitTree unit;
        private final SourcePositions places;
        private int classes = 0;

        Rules(CompilationUnitTree unit, SourcePositions places) {
            this.unit = unit;
            this.places = places;
        }

        private long line(long place) {
            return unit.getLineMap().getLineNumber(place);
        }

        private Void not(String rule, Tree tree) {
            Due.due("rule " + rule + " at line " + line(places.getStartPosition(unit, tree)), false);
            return null;
        }

        @Override
        public Void visitClass(ClassTree tree, Void x) {
            classes++;
            int fields = 0;
            for (Tree member : tree.getMembers()) {
                if (member.getKind() == Tree.Kind.BLOCK) {
                    not("5", member);
                }
                if (member instanceof VariableTree) {
                    VariableTree field = (VariableTree) member;
                    boolean isStatic = field.getModifiers().getFlags().toString().contains("static");
                    boolean isFinal = field.getModifiers().getFlags().toString().contains("final");
                    Due.due("rule 5: " + field.getName(), !isStatic || isFinal);
                    fields += isStatic ? 0 : 1;
                }
            }
            String how = tree.getModifiers().getFlags().toString();
            Due.due("rule 2: " + tree.getSimpleName(), tree.getSimpleName().contentEquals("LadderClub") || how.contains("static"));
            Due.due("rule 11: fields of " + tree.getSimpleName(), fields <= 20);
            return super.visitClass(tree, x);
        }

        @Override
        public Void visitMethod(MethodTree tree, Void x) {
            long lines = line(places.getEndPosition(unit, tree)) - line(places.getStartPosition(unit, tree)) + 1;
            Due.due("rule 11: lines of " + tree.getName() + ": " + lines, lines <= 60);
            Due.due("rule 11: parameters of " + tree.getName(), tree.getParameters().size() <= 7);
            Due.due("rule 6: throws of " + tree.getName(), tree.getThrows().isEmpty());
            Due.due("rule 6: " + tree.getName(), !Set.of("equals", "hashCode", "toString").contains(tree.getName().toString()));
            return super.visitMethod(tree, x);
        }

        @Override
        public Void visitNewClass(NewClassTree tree, Void x) {
            return tree.getClassBody() == null ? super.visitNewClass(tree, x) : not("2", tree);
        }

        @Override
        public Void visitLambdaExpression(LambdaExpressionTree tree, Void x) {
            return not("2", tree);
        }

        @Override
        public Void visitMemberReference(MemberReferenceTree tree, Void x) {
            return not("2", tree);
        }

        @Override
        public Void visitImport(ImportTree tree, Void x) {
            return not("4", tree);
        }

        @Override
        public Void visitAnnotation(AnnotationTree tree, Void x) {
            return not("4", tree);
        }

        @Override
        public Void visitThrow(ThrowTree tree, Void x) {
            return not("6", tree);
        }

        @Override
        public Void visitTry(TryTree tree, Void x) {
            return not("6", tree);
        }

        @Override
        public Void visitSynchronized(SynchronizedTree tree, Void x) {
            return not("6", tree);
        }

        @Override
        public Void visitAssert(AssertTree tree, Void x) {
            return not("6", tree);
        }
    }
}
