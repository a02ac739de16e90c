import com.sun.source.tree.ArrayTypeTree;
import com.sun.source.tree.AssertTree;
import com.sun.source.tree.BlockTree;
import com.sun.source.tree.ClassTree;
import com.sun.source.tree.CompilationUnitTree;
import com.sun.source.tree.IdentifierTree;
import com.sun.source.tree.ImportTree;
import com.sun.source.tree.LambdaExpressionTree;
import com.sun.source.tree.MemberReferenceTree;
import com.sun.source.tree.MethodInvocationTree;
import com.sun.source.tree.MethodTree;
import com.sun.source.tree.NewClassTree;
import com.sun.source.tree.PrimitiveTypeTree;
import com.sun.source.tree.SynchronizedTree;
import com.sun.source.tree.ThrowTree;
import com.sun.source.tree.Tree;
import com.sun.source.tree.TryTree;
import com.sun.source.tree.VariableTree;
import com.sun.source.tree.WhileLoopTree;
import com.sun.source.util.JavacTask;
import com.sun.source.util.SourcePositions;
import com.sun.source.util.TreeScanner;
import com.sun.source.util.Trees;
import java.nio.file.Files;
import java.nio.file.Path;
import java.util.List;
import java.util.Set;
import java.util.TreeSet;
import javax.lang.model.element.Modifier;
import javax.tools.JavaCompiler;
import javax.tools.StandardJavaFileManager;
import javax.tools.ToolProvider;

/**
 * The rules of LANGUAGE.md that can be seen in the text of the program. It is stricter than they are where the
 * program needs no more: nothing is thrown or caught, no object is made but in the constructor, which keeps what a
 * run makes small, and of the library only Math's min and max are called.
 */
public final class LanguageTest {
    private static final Path PROGRAM = Path.of("src", "main", "java", "SearchGrids.java");
    private static final Set<String> LIBRARY = Set.of("Math.min", "Math.max");
    private static final int MOST_PARAMETERS = 7;
    private static final int MOST_LINES = 60;
    private static final int MOST_CLASSES = 12;
    private static final int MOST_FIELDS = 20;

    private static int wrong = 0;

    private static void rule(int number, boolean kept, String what) {
        if (!kept) {
            wrong++;
            System.out.println("rule " + number + ": " + what);
        }
    }

    /** The names of all classes and methods that the program has itself. */
    private static final class Names extends TreeScanner<Void, Void> {
        final Set<String> classes = new TreeSet<>();
        final Set<String> methods = new TreeSet<>();
        final Set<String> face = new TreeSet<>();

        @Override
        public Void visitClass(ClassTree tree, Void none) {
            classes.add(tree.getSimpleName().toString());
            return super.visitClass(tree, none);
        }

        @Override
        public Void visitMethod(MethodTree tree, Void none) {
            String name = tree.getName().toString();
            methods.add(name);
            if (tree.getModifiers().getFlags().contains(Modifier.PUBLIC)) {
                rule(1, face.add(name), "two public methods " + name);
            }
            return super.visitMethod(tree, none);
        }
    }

    private static final class Rules extends TreeScanner<Void, Void> {
        private final Names names;
        private final CompilationUnitTree unit;
        private final SourcePositions positions;
        private boolean inConstructor = false;

        Rules(Names names, CompilationUnitTree unit, SourcePositions positions) {
            this.names = names;
            this.unit = unit;
            this.positions = positions;
        }

        private long lines(Tree tree) {
            long first = unit.getLineMap().getLineNumber(positions.getStartPosition(unit, tree));
            long last = unit.getLineMap().getLineNumber(positions.getEndPosition(unit, tree));
            return last - first + 1;
        }

        @Override
        public Void visitImport(ImportTree tree, Void none) {
            rule(4, false, "import of " + tree.getQualifiedIdentifier());
            return super.visitImport(tree, none);
        }

        @Override
        public Void visitClass(ClassTree tree, Void none) {
            String name = tree.getSimpleName().toString();
            Set<Modifier> flags = tree.getModifiers().getFlags();
            boolean outer = name.equals("SearchGrids");
            rule(1, outer ? flags.contains(Modifier.PUBLIC) && flags.contains(Modifier.FINAL)
                : flags.contains(Modifier.PRIVATE) && flags.contains(Modifier.STATIC), "modifiers of class " + name);
            int fields = 0;
            for (Tree member : tree.getMembers()) {
                rule(5, !(member instanceof BlockTree), "initialiser block in " + name);
                if (member instanceof VariableTree field) {
                    fields += isConstant(field) ? 0 : 1;
                    fieldIsKept(name, field);
                }
            }
            rule(11, fields <= MOST_FIELDS, fields + " fields in " + name);
            return super.visitClass(tree, none);
        }

        private static boolean isConstant(VariableTree field) {
            return field.getModifiers().getFlags().contains(Modifier.STATIC);
        }

        private void fieldIsKept(String owner, VariableTree field) {
            Set<Modifier> flags = field.getModifiers().getFlags();
            String name = owner + "." + field.getName();
            rule(1, flags.contains(Modifier.PRIVATE) || name.equals("SearchGrids.NONE"), name + " is not private");
            if (isConstant(field)) {
                boolean plain = Set.of("int", "long", "boolean", "char", "String").contains(field.getType().toString());
                rule(5, flags.contains(Modifier.FINAL) && plain, name + " is static, but no plain constant");
            }
        }

        @Override
        public Void visitVariable(VariableTree tree, Void none) {
            Tree type = tree.getType();
            if (type instanceof ArrayTypeTree array) {
                type = array.getType();
            }
            boolean known = type instanceof PrimitiveTypeTree
                || type instanceof IdentifierTree own && names.classes.contains(own.getName().toString());
            rule(3, known, "type of " + tree);
            rule(3, !Set.of("double", "float").contains(String.valueOf(type)), "not reckoned in whole numbers: " + tree);
            return super.visitVariable(tree, none);
        }

        @Override
        public Void visitMethod(MethodTree tree, Void none) {
            String name = tree.getName().toString();
            Set<Modifier> flags = tree.getModifiers().getFlags();
            boolean constructor = name.equals("<init>");
            rule(1, constructor || flags.contains(Modifier.PUBLIC) || !names.face.contains(name),
                "a method that is not public bears the name " + name);
            rule(1, flags.contains(Modifier.PUBLIC) || flags.contains(Modifier.PRIVATE) || constructor,
                name + " is neither public nor private");
            rule(6, tree.getThrows().isEmpty(), name + " is declared to throw");
            rule(11, tree.getParameters().size() <= MOST_PARAMETERS, "parameters of " + name);
            rule(11, lines(tree) <= MOST_LINES, name + " has " + lines(tree) + " lines");
            inConstructor = constructor;
            super.visitMethod(tree, none);
            inConstructor = false;
            return null;
        }

        @Override
        public Void visitMethodInvocation(MethodInvocationTree tree, Void none) {
            String called = tree.getMethodSelect().toString();
            String name = called.substring(called.lastIndexOf('.') + 1);
            boolean ofConstructor = called.equals("super") && tree.getArguments().isEmpty();
            rule(4, ofConstructor || LIBRARY.contains(called) || names.methods.contains(name), "call of " + called);
            rule(12, ofConstructor || !inConstructor, "a constructor calls " + called);
            return super.visitMethodInvocation(tree, none);
        }

        @Override
        public Void visitNewClass(NewClassTree tree, Void none) {
            rule(2, tree.getClassBody() == null, "class without a name: " + tree);
            rule(4, names.classes.contains(tree.getIdentifier().toString()), "object of no own class: " + tree);
            rule(12, inConstructor && tree.getArguments().isEmpty(), tree + " is made behind the constructor, or handed "
                + "something of the object that is being made");
            return super.visitNewClass(tree, none);
        }

        @Override
        public Void visitLambdaExpression(LambdaExpressionTree tree, Void none) {
            rule(2, false, "lambda " + tree);
            return super.visitLambdaExpression(tree, none);
        }

        @Override
        public Void visitMemberReference(MemberReferenceTree tree, Void none) {
            rule(2, false, "method reference " + tree);
            return super.visitMemberReference(tree, none);
        }

        @Override
        public Void visitTry(TryTree tree, Void none) {
            rule(6, false, "try");
            return super.visitTry(tree, none);
        }

        @Override
        public Void visitThrow(ThrowTree tree, Void none) {
            rule(6, false, "the document names no exception, but there is a " + tree);
            return super.visitThrow(tree, none);
        }

        @Override
        public Void visitSynchronized(SynchronizedTree tree, Void none) {
            rule(6, false, "synchronized");
            return super.visitSynchronized(tree, none);
        }

        @Override
        public Void visitAssert(AssertTree tree, Void none) {
            rule(6, false, "assert");
            return super.visitAssert(tree, none);
        }

        @Override
        public Void visitWhileLoop(WhileLoopTree tree, Void none) {
            rule(9, tree.getCondition().toString().matches(".*[<>] ?\\w+.*"), "no bound in " + tree.getCondition());
            return super.visitWhileLoop(tree, none);
        }
    }

    private static void look(CompilationUnitTree unit, SourcePositions positions) {
        rule(1, unit.getPackageName() == null, "package line");
        rule(1, unit.getTypeDecls().size() == 1, "classes beside SearchGrids");
        Names names = new Names();
        names.scan(unit, null);
        rule(11, names.classes.size() <= MOST_CLASSES, names.classes.size() + " classes");
        new Rules(names, unit, positions).scan(unit, null);
    }

    public static void main(String[] args) throws Exception {
        JavaCompiler compiler = ToolProvider.getSystemJavaCompiler();
        try (StandardJavaFileManager files = compiler.getStandardFileManager(null, null, null)) {
            JavacTask task = (JavacTask) compiler.getTask(null, files, null, List.of("--release", "17"), null,
                files.getJavaFileObjects(PROGRAM));
            for (CompilationUnitTree unit : task.parse()) {
                look(unit, Trees.instance(task).getSourcePositions());
            }
        }
        rule(3, Files.readString(PROGRAM).chars().allMatch(c -> c < 256), "a character above 255");
        System.out.println(wrong == 0 ? "the rules that can be seen are kept" : wrong + " breaches");
        if (wrong != 0) {
            System.exit(1);
        }
    }
}
