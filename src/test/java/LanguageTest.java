import com.sun.source.tree.*;
import com.sun.source.util.JavacTask;
import com.sun.source.util.SourcePositions;
import com.sun.source.util.TreeScanner;
import com.sun.source.util.Trees;
import java.io.File;
import java.nio.charset.StandardCharsets;
import java.nio.file.Files;
import java.nio.file.Path;
import java.util.ArrayList;
import java.util.HashMap;
import java.util.HashSet;
import java.util.List;
import java.util.Map;
import java.util.Set;
import java.util.TreeSet;
import javax.lang.model.element.Modifier;
import javax.tools.JavaCompiler;
import javax.tools.StandardJavaFileManager;
import javax.tools.ToolProvider;

/** Looks through the class's text for what LANGUAGE.md rules out, as far as a text shows it. */
public final class LanguageTest {
    private static final String FILE = "src/main/java/PullSaw.java";
    private static final Set<String> FACE = Set.of("PullSaw", "feed", "yard", "fault", "told", "wood", "person", "log", "stroke", "rest",
        "sides", "oil", "wedge", "file", "wish", "habit", "drift", "undo", "toGo", "fresh", "wishes", "quarrel", "withWhom", "changes",
        "whenWedge", "whenRest", "worthFile", "see", "habits", "end", "write", "judge", "tear", "seed", "keep", "goBack",
        "NONE", "UNKNOWN", "OUTSIDE", "NOT", "FULL");
    private static final Set<Tree.Kind> RULED_OUT = Set.of(Tree.Kind.THROW, Tree.Kind.TRY, Tree.Kind.CATCH, Tree.Kind.SYNCHRONIZED,
        Tree.Kind.ASSERT, Tree.Kind.LAMBDA_EXPRESSION, Tree.Kind.MEMBER_REFERENCE, Tree.Kind.IMPORT, Tree.Kind.INSTANCE_OF,
        Tree.Kind.TYPE_CAST, Tree.Kind.FLOAT_LITERAL, Tree.Kind.DOUBLE_LITERAL, Tree.Kind.ANNOTATION, Tree.Kind.PACKAGE);
    private static final Set<String> LIBRARY = Set.of("min", "max", "abs", "bitCount");
    /** Where an index is used: each of these looks at it first. */
    private static final Set<String> INDEX_USERS = Set.of("Row.at", "Row.put", "Row.copy", "Row.fill", "Sheet.mark", "Past.Past",
        "Past.placeAt");
    /** A divisor is a number, a constant (none is 0) or the wood that was looked at just before. */
    private static final String DIVISOR = "[1-9][0-9]*|[A-Z_]+|wood";

    private static int wrong = 0;

    private static void fail(String what) {
        wrong++;
        System.out.println(what);
    }

    public static void main(String[] args) throws Exception {
        JavaCompiler compiler = ToolProvider.getSystemJavaCompiler();
        StandardJavaFileManager files = compiler.getStandardFileManager(null, null, null);
        JavacTask task = (JavacTask) compiler.getTask(null, files, null, null, null, files.getJavaFileObjects(new File(FILE)));
        CompilationUnitTree unit = task.parse().iterator().next();
        Look look = new Look(unit, Trees.instance(task).getSourcePositions());
        look.scan(unit, null);
        if (unit.getTypeDecls().size() != 1) {
            fail("more than one class outside");
        }
        if (look.classes > 12) {
            fail(look.classes + " classes");
        }
        Set<String> clash = new TreeSet<>(look.ownMethods);
        clash.retainAll(FACE);
        if (!clash.isEmpty()) {
            fail("private methods that bear a public one's name: " + clash);
        }
        if (!look.face.equals(FACE)) {
            fail("the face is " + new TreeSet<>(look.face));
        }
        for (String method : look.calls.keySet()) {
            int deep = look.deepest(method, new HashSet<>());
            if (deep > 8) {
                fail(method + " goes " + deep + " calls deep");
            }
        }
        if (!Files.readString(Path.of(FILE), StandardCharsets.ISO_8859_1).matches("[\\n -~]*")) {
            fail("a sign that is not of 1 to 127, or no plain one");
        }
        if (wrong > 0) {
            System.exit(1);
        }
    }

    private static final class Look extends TreeScanner<Void, Void> {
        final Set<String> face = new HashSet<>();
        final Set<String> ownMethods = new HashSet<>();
        final Map<String, Set<String>> calls = new HashMap<>();
        int classes = 0;
        private final CompilationUnitTree unit;
        private final SourcePositions places;
        private final List<ClassTree> within = new ArrayList<>();
        private MethodTree method = null;

        Look(CompilationUnitTree unit, SourcePositions places) {
            this.unit = unit;
            this.places = places;
        }

        @Override
        public Void scan(Tree tree, Void nothing) {
            if (tree != null && RULED_OUT.contains(tree.getKind())) {
                fail("ruled out: " + tree.getKind() + " " + tree);
            }
            return super.scan(tree, nothing);
        }

        @Override
        public Void visitClass(ClassTree node, Void nothing) {
            classes++;
            Set<Modifier> flags = node.getModifiers().getFlags();
            boolean inside = !within.isEmpty();
            if (inside && (!flags.contains(Modifier.STATIC) || flags.contains(Modifier.PUBLIC) || flags.contains(Modifier.PROTECTED) || method != null)) {
                fail("a class inside that is not private and static: " + node.getSimpleName());
            }
            if (!inside && !flags.equals(Set.of(Modifier.PUBLIC, Modifier.FINAL))) {
                fail("the class is not public and final");
            }
            int fields = 0;
            for (Tree member : node.getMembers()) {
                if (member instanceof BlockTree) {
                    fail("an initialiser block in " + node.getSimpleName());
                }
                if (member instanceof VariableTree) {
                    fields += lookAtField((VariableTree) member, inside);
                }
            }
            if (fields > 20) {
                fail(node.getSimpleName() + " has " + fields + " fields");
            }
            within.add(node);
            super.visitClass(node, nothing);
            within.remove(within.size() - 1);
            return null;
        }

        private int lookAtField(VariableTree field, boolean inside) {
            Set<Modifier> flags = field.getModifiers().getFlags();
            boolean constant = flags.contains(Modifier.STATIC);
            if (constant && !flags.contains(Modifier.FINAL)) {
                fail("static and not final: " + field);
            }
            lookAtMember(field.getName().toString(), flags, inside);
            return constant ? 0 : 1;
        }

        private void lookAtMember(String name, Set<Modifier> flags, boolean inside) {
            if (flags.contains(Modifier.PUBLIC)) {
                face.add(inside ? "inside " + name : name);
            } else if (!inside && !flags.contains(Modifier.PRIVATE)) {
                fail("neither public nor private: " + name);
            }
        }

        @Override
        public Void visitMethod(MethodTree node, Void nothing) {
            boolean maker = node.getReturnType() == null;
            boolean inside = within.size() > 1;
            String name = nameOf(node);
            Set<Modifier> flags = node.getModifiers().getFlags();
            if (!(inside && maker)) {
                lookAtMember(name, flags, inside);
            }
            if (!maker && !flags.contains(Modifier.PUBLIC)) {
                ownMethods.add(name);
            }
            if (node.getParameters().size() > 7) {
                fail(name + " takes more than seven");
            }
            long start = places.getStartPosition(unit, node);
            long end = places.getEndPosition(unit, node);
            if (unit.getLineMap().getLineNumber(end) - unit.getLineMap().getLineNumber(start) > 60) {
                fail(name + " is too long");
            }
            calls.computeIfAbsent(name, any -> new HashSet<>());
            method = node;
            super.visitMethod(node, nothing);
            method = null;
            return null;
        }

        @Override
        public Void visitMethodInvocation(MethodInvocationTree node, Void nothing) {
            ExpressionTree called = node.getMethodSelect();
            String name = called instanceof MemberSelectTree ? ((MemberSelectTree) called).getIdentifier().toString() : called.toString();
            if (method != null && !name.equals("super")) {
                calls.get(nameOf(method)).add(name);
            }
            return super.visitMethodInvocation(node, nothing);
        }

        @Override
        public Void visitArrayAccess(ArrayAccessTree node, Void nothing) {
            String user = within.get(within.size() - 1).getSimpleName() + "." + nameOf(method);
            if (!INDEX_USERS.contains(user)) {
                fail("an index in " + user + ": " + node);
            }
            return super.visitArrayAccess(node, nothing);
        }

        @Override
        public Void visitBinary(BinaryTree node, Void nothing) {
            if (node.getKind() == Tree.Kind.DIVIDE || node.getKind() == Tree.Kind.REMAINDER) {
                lookAtDivisor(node.getRightOperand());
            } else if (node.getKind() == Tree.Kind.PLUS && (node + "").contains("\"")) {
                fail("texts joined by +: " + node);
            }
            return super.visitBinary(node, nothing);
        }

        @Override
        public Void visitCompoundAssignment(CompoundAssignmentTree node, Void nothing) {
            if (node.getKind() == Tree.Kind.DIVIDE_ASSIGNMENT || node.getKind() == Tree.Kind.REMAINDER_ASSIGNMENT) {
                lookAtDivisor(node.getExpression());
            }
            return super.visitCompoundAssignment(node, nothing);
        }

        private void lookAtDivisor(ExpressionTree divisor) {
            if (!divisor.toString().matches(DIVISOR)) {
                fail("a divisor: " + divisor);
            }
        }

        private String nameOf(MethodTree node) {
            if (node == null || node.getReturnType() == null) {
                return within.get(within.size() - 1).getSimpleName().toString();
            }
            return node.getName().toString();
        }

        @Override
        public Void visitNewClass(NewClassTree node, Void nothing) {
            lookAtNew(node.toString());
            if (node.getClassBody() != null) {
                fail("a class without a name");
            }
            return super.visitNewClass(node, nothing);
        }

        @Override
        public Void visitNewArray(NewArrayTree node, Void nothing) {
            lookAtNew(node.toString());
            return super.visitNewArray(node, nothing);
        }

        /** All calls of a run live in one room: rows are made with the object alone. */
        private void lookAtNew(String what) {
            if (method != null && method.getReturnType() != null) {
                fail("made in " + method.getName() + ": " + what);
            }
        }

        /** By names alone: like names of several classes count as one, so it is never told too small. */
        int deepest(String name, Set<String> open) {
            if (!calls.containsKey(name)) {
                if (!LIBRARY.contains(name)) {
                    fail("a call of " + name);
                }
                return 1;
            }
            if (!open.add(name)) {
                fail(name + " calls itself");
                return 1;
            }
            int most = 0;
            for (String each : calls.get(name)) {
                most = Math.max(most, deepest(each, open));
            }
            open.remove(name);
            return most + 1;
        }
    }
}
