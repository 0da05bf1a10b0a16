import com.sun.source.tree.*;
import com.sun.source.util.JavacTask;
import com.sun.source.util.SourcePositions;
import com.sun.source.util.TreeScanner;
import com.sun.source.util.Trees;
import java.nio.file.Path;
import java.util.ArrayList;
import java.util.HashMap;
import java.util.HashSet;
import java.util.List;
import java.util.Map;
import java.util.Set;
import javax.lang.model.element.Modifier;
import javax.tools.JavaCompiler;
import javax.tools.StandardJavaFileManager;
import javax.tools.ToolProvider;

/** The rules of LANGUAGE.md that a look at the source can tell; run from the project's folder. */
public final class LanguageTest {
    private static final Due due = new Due("LanguageTest");
    private static final Set<String> FACE = Set.of("edge", "connect", "weight", "phase", "type", "car", "aim", "remove",
            "run", "of", "lane", "road", "junction", "way", "total");
    private static final Set<String> TYPES = Set.of("int", "long", "short", "byte", "char", "boolean", "void",
            "int[]", "long[]", "short[]", "byte[]", "char[]", "boolean[]");
    private static final Set<Tree.Kind> BANNED = Set.of(Tree.Kind.THROW, Tree.Kind.TRY, Tree.Kind.SYNCHRONIZED,
            Tree.Kind.ASSERT, Tree.Kind.INSTANCE_OF, Tree.Kind.LAMBDA_EXPRESSION, Tree.Kind.MEMBER_REFERENCE,
            Tree.Kind.NEW_CLASS, Tree.Kind.STRING_LITERAL, Tree.Kind.NULL_LITERAL, Tree.Kind.FLOAT_LITERAL,
            Tree.Kind.DOUBLE_LITERAL);
    /** Some sixty, some forty. */
    private static final int LINES = 70, FIELDS = 44;
    /** By name and number of parameters, as private methods may share a name. */
    private static final Map<String, Set<String>> calls = new HashMap<>();

    public static void main(String[] args) throws Exception {
        JavaCompiler compiler = ToolProvider.getSystemJavaCompiler();
        StandardJavaFileManager files = compiler.getStandardFileManager(null, null, null);
        JavacTask task = (JavacTask) compiler.getTask(null, files, null, null, null,
                files.getJavaFileObjects(Path.of("src/main/java/RoadDesk.java")));
        CompilationUnitTree unit = task.parse().iterator().next();
        SourcePositions places = Trees.instance(task).getSourcePositions();
        due.is("rule 1: types in the file", unit.getTypeDecls().size(), 1);
        due.is("rule 3: imports", unit.getImports().size(), 0);
        due.yes("no package line", unit.getPackage() == null);
        ClassTree desk = (ClassTree) unit.getTypeDecls().get(0);
        due.yes("rule 1: public and final",
                desk.getModifiers().getFlags().equals(Set.of(Modifier.PUBLIC, Modifier.FINAL)));
        int fields = 0;
        Set<String> names = new HashSet<>();
        for (Tree member : desk.getMembers()) {
            if (member instanceof VariableTree) {
                fields += field((VariableTree) member) ? 1 : 0;
            } else if (member instanceof MethodTree) {
                MethodTree method = (MethodTree) member;
                boolean isNew = names.add(method.getName().toString());
                due.yes("rule 1: " + method.getName() + " is there once", isNew || !isOpen(method));
                long first = unit.getLineMap().getLineNumber(places.getStartPosition(unit, method));
                long last = unit.getLineMap().getLineNumber(places.getEndPosition(unit, method));
                due.yes("rule 10: lines of " + method.getName(), last - first < LINES);
                method(method);
            } else {
                due.yes("rule 1: a member of kind " + member.getKind(), false);
            }
        }
        due.yes("rule 1: the whole face", names.containsAll(FACE));
        due.yes("rule 10: fields " + fields, fields <= FIELDS);
        for (String name : calls.keySet()) {
            // six deep, the call from outside being the first
            due.yes("rules 8 and 10: depth of the calls of " + name, 1 + depth(name, new ArrayList<>()) <= 6);
        }
        new Rules().scan(desk, null);
        due.end();
    }

    /** Whether it is a field and not a constant. */
    private static boolean field(VariableTree field) {
        Set<Modifier> flags = field.getModifiers().getFlags();
        String name = field.getName().toString();
        if (Set.of("BAD", "NONE").contains(name)) {
            due.yes("rule 1: " + name, flags.equals(Set.of(Modifier.PUBLIC, Modifier.STATIC, Modifier.FINAL)));
        } else {
            due.yes("rule 1: " + name + " is private", flags.contains(Modifier.PRIVATE));
        }
        if (flags.contains(Modifier.STATIC)) {
            due.yes("rule 5: " + name, flags.contains(Modifier.FINAL)
                    && Set.of("int", "long").contains(field.getType().toString()));
            return false;
        }
        return true;
    }

    private static boolean isOpen(MethodTree method) {
        String name = method.getName().toString();
        return FACE.contains(name) || name.equals("<init>");
    }

    private static String key(MethodInvocationTree call) {
        String name = call.getMethodSelect().toString();
        return (name.startsWith("this.") ? name.substring(5) : name) + "/" + call.getArguments().size();
    }

    private static void method(MethodTree method) {
        String name = method.getName().toString();
        Set<Modifier> flags = method.getModifiers().getFlags();
        due.yes("rule 1: " + name + " is public or private",
                isOpen(method) ? flags.equals(Set.of(Modifier.PUBLIC)) : flags.contains(Modifier.PRIVATE));
        due.yes("rule 10: parameters of " + name, method.getParameters().size() <= 7);
        Set<String> called = new HashSet<>();
        calls.put(name + "/" + method.getParameters().size(), called);
        new TreeScanner<Void, Void>() {
            @Override
            public Void visitMethodInvocation(MethodInvocationTree call, Void none) {
                called.add(key(call));
                return super.visitMethodInvocation(call, none);
            }

            @Override
            public Void visitNewArray(NewArrayTree made, Void none) {
                due.yes("rule 4: an array made in " + name, name.equals("<init>"));
                return super.visitNewArray(made, none);
            }
        }.scan(method.getBody(), null);
    }

    /** How deep the calls go that a method makes. */
    private static int depth(String name, List<String> path) {
        if (path.contains(name)) {
            due.yes("rule 8: recursion " + path, false);
            return 0;
        }
        path.add(name);
        int deepest = 0;
        for (String called : calls.getOrDefault(name, Set.of())) {
            if (!called.equals("super/0")) {
                due.yes("rule 3: " + called + " is of this class", calls.containsKey(called));
                deepest = Math.max(deepest, 1 + depth(called, path));
            }
        }
        path.remove(path.size() - 1);
        return deepest;
    }

    private static final class Rules extends TreeScanner<Void, Void> {
        private int inArguments = 0;

        @Override
        public Void scan(Tree tree, Void none) {
            if (tree != null) {
                due.no("rules 2, 3, 6: " + tree.getKind() + " " + tree, BANNED.contains(tree.getKind()));
            }
            return super.scan(tree, none);
        }

        @Override
        public Void visitVariable(VariableTree made, Void none) {
            due.yes("rule 2: type of " + made.getName(), TYPES.contains(made.getType().toString()));
            return super.visitVariable(made, none);
        }

        @Override
        public Void visitMemberSelect(MemberSelectTree select, Void none) {
            due.yes("rule 3: " + select, select.getExpression().toString().equals("this")
                    || select.getIdentifier().contentEquals("length"));
            return super.visitMemberSelect(select, none);
        }

        @Override
        public Void visitNewArray(NewArrayTree made, Void none) {
            Tree length = made.getDimensions().size() == 1 ? made.getDimensions().get(0) : null;
            due.yes("rule 4: length of " + made, length instanceof LiteralTree || length instanceof IdentifierTree);
            return super.visitNewArray(made, none);
        }

        @Override
        public Void visitMethodInvocation(MethodInvocationTree call, Void none) {
            due.yes("rule 10: a call inside the arguments of another, " + call, inArguments == 0);
            inArguments++;
            scan(call.getArguments(), none);
            inArguments--;
            return null;
        }
    }
}
