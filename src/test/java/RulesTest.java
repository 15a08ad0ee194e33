import com.sun.source.tree.AnnotationTree;
import com.sun.source.tree.ArrayTypeTree;
import com.sun.source.tree.BinaryTree;
import com.sun.source.tree.ClassTree;
import com.sun.source.tree.CompilationUnitTree;
import com.sun.source.tree.CompoundAssignmentTree;
import com.sun.source.tree.LiteralTree;
import com.sun.source.tree.MethodInvocationTree;
import com.sun.source.tree.MethodTree;
import com.sun.source.tree.NewArrayTree;
import com.sun.source.tree.NewClassTree;
import com.sun.source.tree.Tree;
import com.sun.source.tree.TypeCastTree;
import com.sun.source.tree.VariableTree;
import com.sun.source.util.JavacTask;
import com.sun.source.util.TreePath;
import com.sun.source.util.TreePathScanner;
import com.sun.source.util.Trees;
import java.io.IOException;
import java.nio.file.Path;
import java.util.ArrayDeque;
import java.util.ArrayList;
import java.util.Deque;
import java.util.EnumSet;
import java.util.LinkedHashSet;
import java.util.List;
import java.util.Map;
import java.util.Set;
import java.util.TreeMap;
import javax.lang.model.element.Element;
import javax.lang.model.element.ElementKind;
import javax.lang.model.element.Modifier;
import javax.lang.model.element.TypeElement;
import javax.lang.model.type.TypeMirror;
import javax.tools.JavaCompiler;
import javax.tools.StandardJavaFileManager;
import javax.tools.ToolProvider;

/** What of ../shared/LANGUAGE.md can be seen in the class as the compiler reads it; each wrong one with its rule. */
public final class RulesTest {
    /** Rules 2, 6 and 8: kinds of code that have no place in it. */
    private static final EnumSet<Tree.Kind> NEVER = EnumSet.of(Tree.Kind.THROW, Tree.Kind.TRY, Tree.Kind.CATCH,
        Tree.Kind.SYNCHRONIZED, Tree.Kind.ASSERT, Tree.Kind.LAMBDA_EXPRESSION, Tree.Kind.MEMBER_REFERENCE,
        Tree.Kind.BINDING_PATTERN, Tree.Kind.IMPORT, Tree.Kind.PACKAGE, Tree.Kind.MODULE);
    /** Rule 4, as far as the class uses it. */
    private static final Set<String> LIBRARY = Set.of("String.length", "String.charAt", "Math.min", "Math.max",
        "Math.floorMod", "System.arraycopy", "Object.<init>");
    private static final Set<String> TYPES = Set.of("int", "long", "short", "byte", "char", "boolean", "void", "String",
        "int[]", "long[]", "byte[]", "char[]", "int[][]");
    private static final int DEEPEST = 8, LONGEST = 60, MOST_PARAMETERS = 7, MOST_FIELDS = 20, MOST_CLASSES = 12;

    private static Trees trees;
    private static CompilationUnitTree unit;
    private static final Set<String> own = new LinkedHashSet<>();
    /** Of each method of the class those that it calls, the library's too. */
    private static final Map<String, Set<String>> calls = new TreeMap<>();
    private static final Map<String, MethodTree> methods = new TreeMap<>();
    /** Of each method the calls of it in other methods and in itself: by whom, and with what depth. */
    private static final Map<String, List<String[]>> depths = new TreeMap<>();

    public static void main(String[] args) throws IOException {
        JavaCompiler compiler = ToolProvider.getSystemJavaCompiler();
        StandardJavaFileManager files = compiler.getStandardFileManager(null, null, null);
        JavacTask task = (JavacTask) compiler.getTask(null, files, null, List.of("-proc:none"), null,
            files.getJavaFileObjects(Path.of("src/main/java/InchCandle.java")));
        unit = task.parse().iterator().next();
        task.analyze();
        trees = Trees.instance(task);
        new Classes().scan(unit, null);
        new Rules().scan(unit, null);
        Due.yes("rule 11: classes: " + own, own.size() <= MOST_CLASSES);
        recursion();
        Due.end("RulesTest");
    }

    private static String where(Tree tree) {
        long at = trees.getSourcePositions().getStartPosition(unit, tree);
        return "line " + unit.getLineMap().getLineNumber(at);
    }

    private static void rule(int rule, Tree tree, String what, boolean holds) {
        Due.yes("rule " + rule + ", " + where(tree) + ": " + what, holds);
    }

    private static String plain(String name) {
        return name.replace("java.lang.", "").replace("InchCandle.", "");
    }

    private static final class Classes extends TreePathScanner<Void, Void> {
        @Override
        public Void visitClass(ClassTree tree, Void none) {
            Element element = trees.getElement(getCurrentPath());
            own.add(tree.getSimpleName().toString());
            rule(2, tree, tree.getSimpleName() + " is a class", tree.getKind() == Tree.Kind.CLASS);
            boolean inside = element.getEnclosingElement().getKind() == ElementKind.CLASS;
            Set<Modifier> how = element.getModifiers();
            rule(2, tree, tree.getSimpleName() + " is static or the outer one", inside == how.contains(Modifier.STATIC));
            rule(1, tree, tree.getSimpleName() + " is open or inside", inside != how.contains(Modifier.PUBLIC));
            rule(2, tree, tree.getSimpleName() + " is final", how.contains(Modifier.FINAL));
            int fields = 0;
            for (Tree member : tree.getMembers()) {
                rule(5, member, "no initialiser block", member.getKind() != Tree.Kind.BLOCK);
                if (member instanceof VariableTree) {
                    Set<Modifier> flags = ((VariableTree) member).getModifiers().getFlags();
                    fields += flags.contains(Modifier.STATIC) ? 0 : 1;
                }
            }
            rule(11, tree, "fields: " + fields, fields <= MOST_FIELDS);
            return super.visitClass(tree, none);
        }
    }

    private static final class Rules extends TreePathScanner<Void, Void> {
        private String method = "";

        @Override
        public Void scan(Tree tree, Void none) {
            if (tree != null) {
                rule(6, tree, "no " + tree.getKind(), !NEVER.contains(tree.getKind()));
            }
            return super.scan(tree, none);
        }

        @Override
        public Void visitMethod(MethodTree tree, Void none) {
            Element element = trees.getElement(getCurrentPath());
            String ahead = method;
            method = named(element);
            methods.put(method, tree);
            calls.putIfAbsent(method, new LinkedHashSet<>());
            rule(11, tree, "parameters of " + method, tree.getParameters().size() <= MOST_PARAMETERS);
            if (tree.getBody() != null && trees.getSourcePositions().getStartPosition(unit, tree) >= 0) {
                long first = unit.getLineMap().getLineNumber(trees.getSourcePositions().getStartPosition(unit, tree));
                long last = unit.getLineMap().getLineNumber(trees.getSourcePositions().getEndPosition(unit, tree));
                rule(11, tree, "lines of " + method, last - first < LONGEST);
            }
            Set<String> objects = Set.of("equals", "hashCode", "toString");
            rule(6, tree, method + " is none of an object", !objects.contains(tree.getName().toString()));
            super.visitMethod(tree, none);
            method = ahead;
            return null;
        }

        @Override
        public Void visitVariable(VariableTree tree, Void none) {
            Element element = trees.getElement(getCurrentPath());
            type(tree, element.asType());
            if (element.getModifiers().contains(Modifier.STATIC)) {
                rule(5, tree, tree.getName() + " is final", element.getModifiers().contains(Modifier.FINAL));
                boolean constant = ((javax.lang.model.element.VariableElement) element).getConstantValue() != null;
                rule(5, tree, tree.getName() + " is a constant", constant);
            }
            return super.visitVariable(tree, none);
        }

        private void type(Tree tree, TypeMirror type) {
            String name = plain(type.toString());
            String one = name.endsWith("[]") ? name.substring(0, name.length() - 2) : name;
            rule(3, tree, "type " + name, TYPES.contains(name) || own.contains(one));
        }

        @Override
        public Void visitMethodInvocation(MethodInvocationTree tree, Void none) {
            Element element = trees.getElement(new TreePath(getCurrentPath(), tree.getMethodSelect()));
            called(tree, element);
            List<? extends Tree> numbers = tree.getArguments();
            String last = numbers.isEmpty() ? "" : numbers.get(numbers.size() - 1).toString();
            depths.computeIfAbsent(named(element), key -> new ArrayList<>()).add(new String[] {method, last});
            return super.visitMethodInvocation(tree, none);
        }

        @Override
        public Void visitNewClass(NewClassTree tree, Void none) {
            rule(2, tree, "no class without a name", tree.getClassBody() == null);
            Element element = trees.getElement(getCurrentPath());
            called(tree, element);
            rule(12, tree, "objects are made by constructors alone, here by " + method, constructs());
            return super.visitNewClass(tree, none);
        }

        @Override
        public Void visitNewArray(NewArrayTree tree, Void none) {
            rule(12, tree, "rows are made by constructors alone, here by " + method, constructs());
            return super.visitNewArray(tree, none);
        }

        private boolean constructs() {
            return method.isEmpty() || method.endsWith("<init>");
        }

        private void called(Tree tree, Element element) {
            TypeElement owner = (TypeElement) element.getEnclosingElement();
            String name = named(element);
            boolean ours = own.contains(owner.getSimpleName().toString());
            rule(4, tree, "calls " + name, ours || LIBRARY.contains(name));
            if (!method.isEmpty()) {
                calls.get(method).add(name);
            }
        }

        @Override
        public Void visitBinary(BinaryTree tree, Void none) {
            boolean texts = text(tree.getLeftOperand()) || text(tree.getRightOperand());
            boolean numbers = tree.getKind() != Tree.Kind.PLUS;
            rule(10, tree, "no text joined by +", numbers || !texts);
            boolean same = tree.getKind() == Tree.Kind.EQUAL_TO || tree.getKind() == Tree.Kind.NOT_EQUAL_TO;
            rule(6, tree, "no == of texts", !same || !texts);
            return super.visitBinary(tree, none);
        }

        private boolean text(Tree part) {
            TypeMirror type = trees.getTypeMirror(new TreePath(getCurrentPath(), part));
            return type != null && type.toString().equals("java.lang.String");
        }

        @Override
        public Void visitCompoundAssignment(CompoundAssignmentTree tree, Void none) {
            rule(10, tree, "no text joined by +=", !text(tree.getVariable()));
            return super.visitCompoundAssignment(tree, none);
        }

        @Override
        public Void visitTypeCast(TypeCastTree tree, Void none) {
            String type = tree.getType().toString();
            rule(6, tree, "a cast among numbers: " + type, TYPES.contains(type) && !type.equals("String"));
            return super.visitTypeCast(tree, none);
        }

        @Override
        public Void visitArrayType(ArrayTypeTree tree, Void none) {
            rule(3, tree, "an array of " + tree.getType(), !tree.getType().toString().equals("String"));
            return super.visitArrayType(tree, none);
        }

        @Override
        public Void visitLiteral(LiteralTree tree, Void none) {
            if (tree.getValue() instanceof String) {
                rule(4, tree, "signs 1 to 127", ((String) tree.getValue()).chars().allMatch(c -> c > 0 && c < 128));
            }
            return super.visitLiteral(tree, none);
        }

        @Override
        public Void visitAnnotation(AnnotationTree tree, Void none) {
            rule(4, tree, "no annotation", false);
            return super.visitAnnotation(tree, none);
        }
    }

    private static String named(Element method) {
        return plain(method.getEnclosingElement().getSimpleName() + "." + method.getSimpleName());
    }

    /** Rule 8: who calls itself, on whatever way, is private and static, and carries its depth; rule 11: how deep. */
    private static void recursion() {
        int deepest = 0;
        for (String method : methods.keySet()) {
            if (reaches(method, method)) {
                MethodTree tree = methods.get(method);
                Set<Modifier> how = tree.getModifiers().getFlags();
                boolean asTold = how.containsAll(Set.of(Modifier.PRIVATE, Modifier.STATIC));
                rule(8, tree, method + " is private and static", asTold);
                List<? extends VariableTree> numbers = tree.getParameters();
                boolean carried = !numbers.isEmpty() && numbers.get(numbers.size() - 1).getName().contentEquals("depth");
                rule(8, tree, method + " carries its depth", carried);
                String first = tree.getBody().getStatements().get(0).toString().replaceAll("\\s+", " ");
                boolean refuses = first.matches("if \\(depth >= [A-Z_]+\\) \\{ return 0; \\}");
                rule(8, tree, method + " refuses what goes deeper", refuses);
                for (String[] call : depths.get(method)) {
                    String want = reaches(call[0], call[0]) ? "depth + 1" : "0";
                    rule(8, tree, method + " is called by " + call[0] + " with depth " + call[1], call[1].equals(want));
                }
            }
            int depth = depth(method, new ArrayDeque<>());
            rule(11, methods.get(method), method + " is " + depth + " deep", depth <= DEEPEST);
            deepest = Math.max(deepest, depth);
        }
        Due.yes("rule 11: the chains were seen, the deepest is " + deepest, deepest >= 5);
    }

    private static boolean reaches(String from, String to) {
        Set<String> seen = new LinkedHashSet<>();
        Deque<String> next = new ArrayDeque<>(calls.get(from));
        while (!next.isEmpty()) {
            String one = next.pop();
            if (one.equals(to)) {
                return true;
            }
            if (seen.add(one) && calls.containsKey(one)) {
                next.addAll(calls.get(one));
            }
        }
        return false;
    }

    /** How many methods stand open at once at most, one that calls itself counted once. */
    private static int depth(String method, Deque<String> open) {
        int most = 0;
        open.push(method);
        for (String one : calls.getOrDefault(method, Set.of())) {
            if (!open.contains(one)) {
                most = Math.max(most, depth(one, open));
            }
        }
        open.pop();
        return most + 1;
    }
}
