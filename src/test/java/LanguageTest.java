import com.sun.source.tree.ArrayTypeTree;
import com.sun.source.tree.BinaryTree;
import com.sun.source.tree.BlockTree;
import com.sun.source.tree.ClassTree;
import com.sun.source.tree.CompilationUnitTree;
import com.sun.source.tree.CompoundAssignmentTree;
import com.sun.source.tree.ExpressionTree;
import com.sun.source.tree.ImportTree;
import com.sun.source.tree.LineMap;
import com.sun.source.tree.MethodInvocationTree;
import com.sun.source.tree.MethodTree;
import com.sun.source.tree.NewClassTree;
import com.sun.source.tree.ThrowTree;
import com.sun.source.tree.Tree;
import com.sun.source.tree.VariableTree;
import com.sun.source.util.JavacTask;
import com.sun.source.util.TreePathScanner;
import com.sun.source.util.Trees;
import java.io.IOException;
import java.util.ArrayDeque;
import java.util.Arrays;
import java.util.Deque;
import java.util.HashMap;
import java.util.List;
import java.util.Map;
import java.util.Set;
import java.util.TreeMap;
import java.util.TreeSet;
import javax.lang.model.element.Element;
import javax.lang.model.element.ElementKind;
import javax.lang.model.element.ExecutableElement;
import javax.lang.model.element.Modifier;
import javax.lang.model.element.VariableElement;
import javax.lang.model.type.TypeKind;
import javax.lang.model.type.TypeMirror;
import javax.tools.JavaCompiler;
import javax.tools.StandardJavaFileManager;
import javax.tools.ToolProvider;

/** The rules of ../shared/LANGUAGE.md that can be counted, looked at in the program's own tree. */
public final class LanguageTest extends Check {
    static final Set<String> LIBRARY = Set.of("java.lang.Math.max", "java.lang.Math.min", "java.lang.System.arraycopy",
            "java.util.Arrays.fill", "java.lang.String.length", "java.lang.String.charAt", "java.lang.String.isEmpty",
            "java.util.NoSuchElementException.<init>", "java.lang.Object.<init>");
    static final Set<String> RULED_OUT = Set.of("TRY", "CATCH", "LAMBDA_EXPRESSION", "MEMBER_REFERENCE", "ASSERT",
            "SYNCHRONIZED", "TYPE_CAST", "INSTANCE_OF", "SWITCH_EXPRESSION", "YIELD", "DOUBLE_LITERAL",
            "FLOAT_LITERAL", "ANNOTATION", "PARAMETERIZED_TYPE", "PACKAGE", "ENHANCED_FOR_LOOP", "RECORD", "ENUM",
            "INTERFACE");
    static final Set<String> TYPES = Set.of("int", "long", "boolean", "char", "int[]", "long[]", "java.lang.String",
            "LateSessions.World", "LateSessions.World[]", "LateSessions.Table");
    static final Set<String> CONSTANTS = Set.of("int", "long", "boolean", "char", "java.lang.String");

    static final class Method {
        final String name;
        int lines;
        int parameters;
        boolean isFace;
        boolean throwsNone;
        int thrown;
        final Set<String> calls = new TreeSet<>();

        Method(String name) {
            this.name = name;
        }
    }

    /** What was seen in the program; filled once, ahead of the tests. */
    static final Map<String, Method> METHODS = new TreeMap<>();
    static final Map<String, Integer> FIELDS = new TreeMap<>();
    static final Set<String> USED = new TreeSet<>();
    static final Set<String> KINDS = new TreeSet<>();
    static final Set<String> FOUND_TYPES = new TreeSet<>();
    static final Set<String> STATICS = new TreeSet<>();
    static final Set<String> DIVISORS = new TreeSet<>();
    static final Set<String> THROWN = new TreeSet<>();
    static final Set<String> OTHERS = new TreeSet<>();

    static final class Look extends TreePathScanner<Void, Void> {
        final Trees trees;
        final LineMap lines;
        final CompilationUnitTree unit;
        final Deque<Method> open = new ArrayDeque<>();

        Look(Trees trees, CompilationUnitTree unit) {
            this.trees = trees;
            this.unit = unit;
            lines = unit.getLineMap();
        }

        Element element() {
            return trees.getElement(getCurrentPath());
        }

        static String told(Element e) {
            return e.getEnclosingElement() + "." + e;
        }

        @Override public Void scan(Tree tree, Void none) {
            if (tree != null) {
                KINDS.add(tree.getKind().toString());
            }
            return super.scan(tree, none);
        }

        @Override public Void visitClass(ClassTree tree, Void none) {
            Element e = element();
            int fields = 0;
            for (Element inside : e.getEnclosedElements()) {
                boolean isStatic = inside.getModifiers().contains(Modifier.STATIC);
                fields += inside.getKind() == ElementKind.FIELD && !isStatic ? 1 : 0;
            }
            FIELDS.put(e.toString(), fields);
            for (Tree member : tree.getMembers()) {
                if (member instanceof BlockTree) {
                    OTHERS.add("a block of its own in " + e);
                }
            }
            return super.visitClass(tree, none);
        }

        @Override public Void visitMethod(MethodTree tree, Void none) {
            Element e = element();
            Method method = new Method(told(e));
            long from = trees.getSourcePositions().getStartPosition(unit, tree);
            long to = trees.getSourcePositions().getEndPosition(unit, tree);
            method.lines = from < 0 || to < 0 ? 0 : (int) (lines.getLineNumber(to) - lines.getLineNumber(from)) + 1;
            method.parameters = tree.getParameters().size();
            method.isFace = e.getModifiers().contains(Modifier.PUBLIC);
            method.throwsNone = !tree.getThrows().isEmpty();
            METHODS.put(method.name, method);
            open.push(method);
            super.visitMethod(tree, none);
            open.pop();
            return null;
        }

        void call() {
            Element e = element();
            if (!(e instanceof ExecutableElement)) {
                OTHERS.add("a call that is not known: " + getCurrentPath().getLeaf());
            } else if (e.getEnclosingElement().toString().startsWith("LateSessions")) {
                // a field's initialiser stands in no method, and runs in the constructor
                if (!open.isEmpty()) {
                    open.peek().calls.add(told(e));
                }
            } else {
                USED.add(e.getEnclosingElement() + "." + e.getSimpleName());
            }
        }

        @Override public Void visitMethodInvocation(MethodInvocationTree tree, Void none) {
            call();
            return super.visitMethodInvocation(tree, none);
        }

        @Override public Void visitNewClass(NewClassTree tree, Void none) {
            call();
            return super.visitNewClass(tree, none);
        }

        @Override public Void visitThrow(ThrowTree tree, Void none) {
            THROWN.add(tree.getExpression().toString());
            if (open.isEmpty()) {
                OTHERS.add("a throw outside of methods");
            } else {
                open.peek().thrown++;
            }
            return super.visitThrow(tree, none);
        }

        @Override public Void visitVariable(VariableTree tree, Void none) {
            Element e = element();
            TypeMirror type = e.asType();
            FOUND_TYPES.add(type.toString());
            if (e.getKind() == ElementKind.FIELD && e.getModifiers().contains(Modifier.STATIC)) {
                boolean isConstant = ((VariableElement) e).getConstantValue() != null
                        && e.getModifiers().contains(Modifier.FINAL) && CONSTANTS.contains(type.toString());
                STATICS.add((isConstant ? "" : "not a constant: ") + e);
            }
            return super.visitVariable(tree, none);
        }

        @Override public Void visitArrayType(ArrayTypeTree tree, Void none) {
            if (tree.getType().getKind() == Tree.Kind.ARRAY_TYPE) {
                OTHERS.add("an array of arrays");
            }
            return super.visitArrayType(tree, none);
        }

        boolean isText(ExpressionTree side) {
            TypeMirror type = trees.getTypeMirror(new com.sun.source.util.TreePath(getCurrentPath(), side));
            return type == null || type.getKind() == TypeKind.DECLARED;
        }

        @Override public Void visitBinary(BinaryTree tree, Void none) {
            Tree.Kind kind = tree.getKind();
            if (kind == Tree.Kind.DIVIDE || kind == Tree.Kind.REMAINDER) {
                DIVISORS.add(tree.getRightOperand().toString());
            }
            if (kind == Tree.Kind.PLUS && (isText(tree.getLeftOperand()) || isText(tree.getRightOperand()))) {
                OTHERS.add("texts joined by +: " + tree);
            }
            return super.visitBinary(tree, none);
        }

        @Override public Void visitCompoundAssignment(CompoundAssignmentTree tree, Void none) {
            Tree.Kind kind = tree.getKind();
            if (kind == Tree.Kind.DIVIDE_ASSIGNMENT || kind == Tree.Kind.REMAINDER_ASSIGNMENT) {
                DIVISORS.add(tree.getExpression().toString());
            }
            return super.visitCompoundAssignment(tree, none);
        }

        @Override public Void visitImport(ImportTree tree, Void none) {
            OTHERS.add("import " + tree.getQualifiedIdentifier());
            return super.visitImport(tree, none);
        }
    }

    static void look() throws IOException {
        JavaCompiler compiler = ToolProvider.getSystemJavaCompiler();
        try (StandardJavaFileManager files = compiler.getStandardFileManager(null, null, null)) {
            JavacTask task = (JavacTask) compiler.getTask(null, files, null, List.of("-proc:none"), null,
                    files.getJavaFileObjects("src/main/java/LateSessions.java"));
            Iterable<? extends CompilationUnitTree> units = task.parse();
            task.analyze();
            for (CompilationUnitTree unit : units) {
                new Look(Trees.instance(task), unit).scan(unit, null);
            }
        }
    }

    static void only(String what, Set<String> found, Set<String> listed) {
        Set<String> others = new TreeSet<>(found);
        others.removeAll(listed);
        yes(what + " are none of these: " + others, others.isEmpty());
    }

    /** How many calls stand open at once at most, the method's own too; 1000 if one comes again. */
    static int depth(String name, Set<String> open, Map<String, Integer> known) {
        if (open.contains(name)) {
            return 1000;
        }
        Integer before = known.get(name);
        if (before != null) {
            return before;
        }
        Method method = METHODS.get(name);
        yes(name + " is in the program", method != null);
        int deepest = 0;
        if (method != null) {
            open.add(name);
            for (String call : method.calls) {
                deepest = Math.max(deepest, depth(call, open, known));
            }
            open.remove(name);
        }
        known.put(name, deepest + 1);
        return deepest + 1;
    }

    static void rule2_classes() {
        yes("classes are " + FIELDS.keySet(), FIELDS.size() == 3);
        yes("the class is there", FIELDS.containsKey("LateSessions"));
    }

    static void rule3_types() {
        only("types", FOUND_TYPES, TYPES);
        only("divisors", DIVISORS, Set.of("EVENT_SIGNS", "MESSAGES_KEPT", "FINALS_KEPT", "UNDO_ROOM", "n", "early"));
    }

    static void rule4_library() {
        only("calls of the library", USED, LIBRARY);
    }

    static void rule5_statics() {
        yes("there are constants", STATICS.size() > 50);
        for (String field : STATICS) {
            no(field, field.startsWith("not"));
        }
    }

    static void rule6_exceptions() {
        only("exceptions", THROWN, Set.of("new NoSuchElementException()"));
        int throwing = 0;
        for (Method method : METHODS.values()) {
            is(method.name + " throws where the document says", method.thrown, method.throwsNone ? 1 : 0);
            yes(method.name + " is of the face, if it throws", method.isFace || method.thrown == 0);
            throwing += method.thrown;
        }
        is("methods that throw", throwing, 6);
    }

    static void rule6_ruledOut() {
        Set<String> both = new TreeSet<>(KINDS);
        both.retainAll(RULED_OUT);
        yes("the program does without " + both, both.isEmpty());
        only("other things", OTHERS, Set.of("import java.util.Arrays", "import java.util.NoSuchElementException"));
    }

    static void rule8_depth() {
        Map<String, Integer> known = new HashMap<>();
        for (String name : METHODS.keySet()) {
            int deep = depth(name, new TreeSet<>(), known);
            yes(name + " goes " + deep + " deep", deep <= 8);
        }
    }

    static void rule11_sizes() {
        for (Method method : METHODS.values()) {
            yes(method.name + " has " + method.lines + " lines", method.lines <= 60);
            yes(method.name + " has " + method.parameters + " parameters", method.parameters <= 7);
        }
        for (Map.Entry<String, Integer> of : FIELDS.entrySet()) {
            yes(of + " fields", of.getValue() <= 20);
        }
        yes("methods are " + METHODS.size(), METHODS.size() > 80);
    }

    static void rule1_names() {
        Set<String> face = new TreeSet<>();
        for (Method method : METHODS.values()) {
            if (method.isFace) {
                face.add(simple(method.name));
            }
        }
        for (Method method : METHODS.values()) {
            yes(method.name + " bears a name of its own", method.isFace || !face.contains(simple(method.name)));
        }
        yes("the face is " + face, face.containsAll(Arrays.asList("sign", "row", "count")));
    }

    static String simple(String name) {
        String behind = name.substring(0, name.indexOf('('));
        return behind.substring(behind.lastIndexOf('.') + 1);
    }

    public static void main(String[] args) throws IOException {
        look();
        runAll(LanguageTest.class);
    }
}
