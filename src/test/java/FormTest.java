import com.sun.source.tree.ArrayTypeTree;
import com.sun.source.tree.AssertTree;
import com.sun.source.tree.BinaryTree;
import com.sun.source.tree.ClassTree;
import com.sun.source.tree.CompilationUnitTree;
import com.sun.source.tree.ForLoopTree;
import com.sun.source.tree.IdentifierTree;
import com.sun.source.tree.ImportTree;
import com.sun.source.tree.LambdaExpressionTree;
import com.sun.source.tree.MemberReferenceTree;
import com.sun.source.tree.MemberSelectTree;
import com.sun.source.tree.MethodInvocationTree;
import com.sun.source.tree.MethodTree;
import com.sun.source.tree.NewArrayTree;
import com.sun.source.tree.NewClassTree;
import com.sun.source.tree.PrimitiveTypeTree;
import com.sun.source.tree.SynchronizedTree;
import com.sun.source.tree.ThrowTree;
import com.sun.source.tree.Tree;
import com.sun.source.tree.TryTree;
import com.sun.source.tree.TypeCastTree;
import com.sun.source.tree.VariableTree;
import com.sun.source.tree.WhileLoopTree;
import com.sun.source.util.JavacTask;
import com.sun.source.util.SourcePositions;
import com.sun.source.util.TreeScanner;
import com.sun.source.util.Trees;
import java.io.File;
import java.lang.reflect.Member;
import java.lang.reflect.Method;
import java.lang.reflect.Modifier;
import java.util.ArrayList;
import java.util.Arrays;
import java.util.HashMap;
import java.util.HashSet;
import java.util.List;
import java.util.Map;
import java.util.Set;
import java.util.TreeSet;
import javax.lang.model.type.TypeKind;
import javax.tools.JavaCompiler;
import javax.tools.StandardJavaFileManager;
import javax.tools.ToolProvider;

/** The public face of the document, and the rules of LANGUAGE.md that a reader of the tree can see. */
public final class FormTest {
    private static final Due DUE = new Due("form");
    private static final String[] FACE = {
        "boolean ground(int, int, int, int)", "boolean air(int, int, int, int)", "boolean wind(int, int)",
        "int feed(int, int, int, int, int)", "int law(int)", "int steps(int)", "int cell(int, int, int)",
        "int sums(int)", "int night(int, int)", "int sun(int, int, int, int)", "int band(int, int)",
        "int works(int, int, int, int)", "int dam(int, int, int)", "boolean road(int, int, int, int, int)",
        "int soonest(int, int, int, int)", "int edge(int)", "int was(int, int, int, int, int)",
        "int line(int, int, int, int)", "int tells(int, int)", "int held(int, int)",
        "int odds(int, int, int, int, int)", "int when(int, int, int)", "long lid(int, int, int, int)",
        "boolean seed(int)", "int draw(int)", "int keep()", "boolean undo()", "int check(int, int)",
        "int count(int)",
    };
    private static final Set<String> LIBRARY = Set.of("max", "min", "abs", "fill", "arraycopy", "length", "indexOf");

    public static void main(String[] args) throws Exception {
        face();
        String root = System.getProperty("project.root", ".");
        read(new File(root, "src/main/java/MistHands.java"));
        DUE.end();
    }

    private static void face() throws Exception {
        Class<?> type = MistHands.class;
        DUE.is("public final", type.getModifiers() & (Modifier.PUBLIC | Modifier.FINAL),
            Modifier.PUBLIC | Modifier.FINAL);
        Set<String> open = new TreeSet<>();
        Set<String> names = new HashSet<>();
        for (Method method : type.getDeclaredMethods()) {
            if (!Modifier.isPrivate(method.getModifiers())) {
                DUE.is(method + " is public and nothing else", method.getModifiers(), Modifier.PUBLIC);
                List<String> types = new ArrayList<>();
                for (Class<?> parameter : method.getParameterTypes()) {
                    types.add(parameter.getName());
                }
                open.add(method.getReturnType() + " " + method.getName() + "(" + String.join(", ", types) + ")");
                names.add(method.getName());
            }
        }
        Set<String> due = new TreeSet<>(Arrays.asList(FACE));
        DUE.is("the face " + open + " is " + due, open.equals(due), true);
        for (Method method : type.getDeclaredMethods()) {
            boolean taken = Modifier.isPrivate(method.getModifiers()) && names.contains(method.getName());
            DUE.is("private " + method + " bears a public name", taken, false);
        }
        DUE.is("constructors", type.getDeclaredConstructors().length, 1);
        DUE.is("constructor", type.getDeclaredConstructor().getModifiers(), Modifier.PUBLIC);
        for (Member field : type.getDeclaredFields()) {
            boolean isNone = field.getName().equals("NONE");
            DUE.is("field " + field, Modifier.isPrivate(field.getModifiers()), !isNone);
        }
        DUE.is("NONE", MistHands.NONE, -1);
        for (Class<?> inner : type.getDeclaredClasses()) {
            DUE.is(inner + " is static", Modifier.isStatic(inner.getModifiers()), true);
            DUE.is(inner + " is not public", Modifier.isPublic(inner.getModifiers()), false);
            for (Method method : inner.getDeclaredMethods()) {
                DUE.is(method + " bears a public name", names.contains(method.getName()), false);
                DUE.is(method + " bears a name of each object",
                    Set.of("equals", "hashCode", "toString", "finalize", "clone").contains(method.getName()), false);
            }
        }
    }

    private static void read(File file) throws Exception {
        JavaCompiler compiler = ToolProvider.getSystemJavaCompiler();
        try (StandardJavaFileManager files = compiler.getStandardFileManager(null, null, null)) {
            JavacTask task = (JavacTask) compiler.getTask(null, files, null, null, null, files.getJavaFileObjects(file));
            for (CompilationUnitTree unit : task.parse()) {
                Rules rules = new Rules(unit, Trees.instance(task).getSourcePositions());
                rules.scan(unit, null);
                rules.end();
            }
        }
    }

    private static final class Rules extends TreeScanner<Void, Void> {
        private final CompilationUnitTree unit;
        private final SourcePositions positions;
        private final Map<String, Set<String>> calls = new HashMap<>();
        private String method = "";
        private int classes = 0;

        Rules(CompilationUnitTree unit, SourcePositions positions) {
            this.unit = unit;
            this.positions = positions;
        }

        private long line(long position) {
            return unit.getLineMap().getLineNumber(position);
        }

        private void refuse(Tree tree, String why) {
            DUE.is("line " + line(positions.getStartPosition(unit, tree)) + ": " + why, 1, 0);
        }

        @Override public Void visitImport(ImportTree tree, Void none) {
            String name = tree.getQualifiedIdentifier().toString();
            DUE.is("import " + name, name.equals("java.util.Arrays") && !tree.isStatic(), true);
            return super.visitImport(tree, none);
        }

        @Override public Void visitClass(ClassTree tree, Void none) {
            classes++;
            DUE.is(tree.getSimpleName() + " stands in a method", method.isEmpty(), true);
            int fields = 0;
            for (Tree member : tree.getMembers()) {
                if (member instanceof VariableTree field) {
                    boolean isStatic = field.getModifiers().getFlags().contains(javax.lang.model.element.Modifier.STATIC);
                    boolean isFinal = field.getModifiers().getFlags().contains(javax.lang.model.element.Modifier.FINAL);
                    fields += isStatic ? 0 : 1;
                    DUE.is("static " + field.getName() + " is final", isStatic && !isFinal, false);
                } else if (member.getKind() == Tree.Kind.BLOCK) {
                    refuse(member, "a block that initialises");
                }
            }
            DUE.is(tree.getSimpleName() + " has " + fields + " fields", fields <= 20, true);
            return super.visitClass(tree, none);
        }

        @Override public Void visitMethod(MethodTree tree, Void none) {
            long first = line(positions.getStartPosition(unit, tree));
            long last = line(positions.getEndPosition(unit, tree));
            DUE.is(tree.getName() + " has " + (last - first + 1) + " lines", last - first < 60, true);
            DUE.is(tree.getName() + " has parameters", tree.getParameters().size() <= 7, true);
            String outer = method;
            method = tree.getName().toString();
            calls.computeIfAbsent(method, name -> new HashSet<>());
            super.visitMethod(tree, none);
            method = outer;
            return null;
        }

        @Override public Void visitMethodInvocation(MethodInvocationTree tree, Void none) {
            String name = tree.getMethodSelect() instanceof MemberSelectTree select
                ? select.getIdentifier().toString() : ((IdentifierTree) tree.getMethodSelect()).getName().toString();
            if (!method.isEmpty()) {
                calls.computeIfAbsent(method, m -> new HashSet<>()).add(name);
            }
            return super.visitMethodInvocation(tree, none);
        }

        @Override public Void visitWhileLoop(WhileLoopTree tree, Void none) {
            DUE.is("while " + tree.getCondition(), tree.getCondition().toString().contains("true"), false);
            return super.visitWhileLoop(tree, none);
        }

        @Override public Void visitForLoop(ForLoopTree tree, Void none) {
            DUE.is("for without an end in " + method, tree.getCondition() == null, false);
            return super.visitForLoop(tree, none);
        }

        @Override public Void visitBinary(BinaryTree tree, Void none) {
            boolean joins = tree.getKind() == Tree.Kind.PLUS
                && (tree.getLeftOperand().getKind() == Tree.Kind.STRING_LITERAL
                || tree.getRightOperand().getKind() == Tree.Kind.STRING_LITERAL);
            DUE.is("texts joined by + in " + method, joins, false);
            return super.visitBinary(tree, none);
        }

        @Override public Void visitTypeCast(TypeCastTree tree, Void none) {
            DUE.is("a cast to " + tree.getType() + " in " + method,
                tree.getType().getKind() == Tree.Kind.PRIMITIVE_TYPE, true);
            return super.visitTypeCast(tree, none);
        }

        @Override public Void visitArrayType(ArrayTypeTree tree, Void none) {
            DUE.is("an array of " + tree.getType() + " in " + method,
                tree.getType().getKind() == Tree.Kind.PRIMITIVE_TYPE, true);
            return super.visitArrayType(tree, none);
        }

        @Override public Void visitNewClass(NewClassTree tree, Void none) {
            DUE.is("a class without a name in " + method, tree.getClassBody() == null, true);
            DUE.is("new " + tree.getIdentifier() + " in " + method, method.equals("<init>"), true);
            return super.visitNewClass(tree, none);
        }

        @Override public Void visitNewArray(NewArrayTree tree, Void none) {
            DUE.is("a new array in " + method, method.equals("<init>") || method.isEmpty(), true);
            return super.visitNewArray(tree, none);
        }

        @Override public Void visitPrimitiveType(PrimitiveTypeTree tree, Void none) {
            boolean floats = tree.getPrimitiveTypeKind() == TypeKind.DOUBLE
                || tree.getPrimitiveTypeKind() == TypeKind.FLOAT;
            DUE.is("a type of floating numbers", floats, false);
            return null;
        }

        @Override public Void visitThrow(ThrowTree tree, Void none) {
            refuse(tree, "throw");
            return null;
        }

        @Override public Void visitTry(TryTree tree, Void none) {
            refuse(tree, "try");
            return null;
        }

        @Override public Void visitSynchronized(SynchronizedTree tree, Void none) {
            refuse(tree, "synchronized");
            return null;
        }

        @Override public Void visitAssert(AssertTree tree, Void none) {
            refuse(tree, "assert");
            return null;
        }

        @Override public Void visitLambdaExpression(LambdaExpressionTree tree, Void none) {
            refuse(tree, "a lambda");
            return null;
        }

        @Override public Void visitMemberReference(MemberReferenceTree tree, Void none) {
            refuse(tree, "a method reference");
            return null;
        }

        void end() {
            DUE.is(classes + " classes", classes <= 12, true);
            for (Map.Entry<String, Set<String>> entry : calls.entrySet()) {
                for (String name : entry.getValue()) {
                    boolean isKnown = calls.containsKey(name) || LIBRARY.contains(name);
                    DUE.is(entry.getKey() + " calls " + name, isKnown, true);
                }
                int depth = depth(entry.getKey(), new HashSet<>());
                DUE.is(entry.getKey() + " goes " + depth + " deep", depth <= 8, true);
                boolean recursive = recursive(entry.getKey());
                DUE.is(entry.getKey() + " is recursive", recursive && !entry.getKey().startsWith("read"), false);
            }
        }

        /** Calls that are no recursion: of those in a circle none is counted. */
        private int depth(String name, Set<String> open) {
            if (!open.add(name)) {
                return 0;
            }
            int deepest = 0;
            for (String called : calls.getOrDefault(name, Set.of())) {
                deepest = Math.max(deepest, depth(called, open));
            }
            open.remove(name);
            return deepest + (recursive(name) ? 0 : 1);
        }

        private boolean recursive(String name) {
            Set<String> seen = new HashSet<>();
            List<String> next = new ArrayList<>(calls.getOrDefault(name, Set.of()));
            while (!next.isEmpty()) {
                String called = next.remove(next.size() - 1);
                if (called.equals(name)) {
                    return true;
                }
                if (seen.add(called)) {
                    next.addAll(calls.getOrDefault(called, Set.of()));
                }
            }
            return false;
        }
    }
}
