import com.sun.source.tree.*;
import com.sun.source.util.*;
import java.io.IOException;
import java.io.StringWriter;
import java.nio.file.Path;
import java.util.ArrayDeque;
import java.util.ArrayList;
import java.util.Deque;
import java.util.HashMap;
import java.util.HashSet;
import java.util.LinkedHashMap;
import java.util.List;
import java.util.Map;
import java.util.Set;
import java.util.TreeSet;
import javax.lang.model.element.Element;
import javax.lang.model.element.ElementKind;
import javax.lang.model.element.ExecutableElement;
import javax.lang.model.element.TypeElement;
import javax.lang.model.type.ArrayType;
import javax.lang.model.type.TypeKind;
import javax.lang.model.type.TypeMirror;
import javax.tools.JavaCompiler;
import javax.tools.StandardJavaFileManager;
import javax.tools.ToolProvider;

/** ../shared/LANGUAGE.md asked of the source as the compiler understands it: its types, its calls and how deep these go. */
public final class LanguageTreeTest {

    // Of the list under rule 4 what this class has needed so far; another of that list may be put here.
    private static final Set<String> LIBRARY = Set.of("java.lang.String.indexOf(int)", "java.lang.Math.max(int,int)",
        "java.lang.Math.min(int,int)", "java.lang.Math.abs(int)", "java.lang.Integer.bitCount(int)");
    private static final Set<TypeKind> NUMBERS = Set.of(TypeKind.INT, TypeKind.LONG, TypeKind.SHORT, TypeKind.BYTE,
        TypeKind.CHAR, TypeKind.BOOLEAN);
    private static final Set<Tree.Kind> BARRED = Set.of(Tree.Kind.THROW, Tree.Kind.TRY, Tree.Kind.CATCH, Tree.Kind.SYNCHRONIZED,
        Tree.Kind.ASSERT, Tree.Kind.LAMBDA_EXPRESSION, Tree.Kind.MEMBER_REFERENCE, Tree.Kind.IMPORT, Tree.Kind.PACKAGE,
        Tree.Kind.ANNOTATION, Tree.Kind.SWITCH_EXPRESSION, Tree.Kind.YIELD, Tree.Kind.INSTANCE_OF);

    private final Trees trees;
    private final CompilationUnitTree unit;
    private final Map<String, Set<String>> calls = new LinkedHashMap<>();

    private LanguageTreeTest(Trees trees, CompilationUnitTree unit) {
        this.trees = trees;
        this.unit = unit;
    }

    public static void main(String[] args) throws IOException {
        JavaCompiler compiler = ToolProvider.getSystemJavaCompiler();
        try (StandardJavaFileManager files = compiler.getStandardFileManager(null, null, null)) {
            var sources = files.getJavaFileObjects(Path.of("src/main/java/IceTreaty.java"));
            JavacTask task = (JavacTask) compiler.getTask(new StringWriter(), files, null, List.of("-proc:none"), null, sources);
            CompilationUnitTree unit = task.parse().iterator().next();
            task.analyze();
            LanguageTreeTest test = new LanguageTreeTest(Trees.instance(task), unit);
            test.look();
            test.depths();
        }
        Check.end("LanguageTreeTest");
    }

    private void look() {
        new TreePathScanner<Void, String>() {
            @Override
            public Void scan(Tree tree, String method) {
                if (tree != null) {
                    Check.due(where(tree) + tree.getKind(), BARRED.contains(tree.getKind()), false);
                }
                return super.scan(tree, method);
            }

            @Override
            public Void visitClass(ClassTree tree, String method) {
                boolean isInside = method == null && trees.getElement(getCurrentPath()).getEnclosingElement().getKind() == ElementKind.CLASS;
                boolean isOutermost = tree.getSimpleName().contentEquals("IceTreaty");
                Check.due(where(tree) + "class " + tree.getSimpleName(), isInside || isOutermost, true);
                return super.visitClass(tree, method);
            }

            @Override
            public Void visitMethod(MethodTree tree, String method) {
                String name = nameOf((ExecutableElement) trees.getElement(getCurrentPath()));
                calls.computeIfAbsent(name, n -> new TreeSet<>());
                Check.due(name + " parameters", tree.getParameters().size() <= 7, true);
                Check.due(name + " lines", linesOf(tree) <= 60, true);
                return super.visitMethod(tree, name);
            }

            @Override
            public Void visitMethodInvocation(MethodInvocationTree tree, String method) {
                called((ExecutableElement) trees.getElement(getCurrentPath()), tree, method);
                return super.visitMethodInvocation(tree, method);
            }

            @Override
            public Void visitNewClass(NewClassTree tree, String method) {
                Check.due(where(tree) + "new with a body", tree.getClassBody() == null, true);
                called((ExecutableElement) trees.getElement(getCurrentPath()), tree, method);
                return super.visitNewClass(tree, method);
            }

            @Override
            public Void visitVariable(VariableTree tree, String method) {
                Element variable = trees.getElement(getCurrentPath());
                Check.due(where(tree) + tree.getName() + " of " + variable.asType(), isLawful(variable.asType()), true);
                return super.visitVariable(tree, method);
            }

            @Override
            public Void visitBinary(BinaryTree tree, String method) {
                boolean hasText = isText(tree.getLeftOperand()) || isText(tree.getRightOperand());
                Check.due(where(tree) + "texts under " + tree.getKind(), hasText, false);
                return super.visitBinary(tree, method);
            }

            @Override
            public Void visitTypeCast(TypeCastTree tree, String method) {
                TypeMirror type = trees.getTypeMirror(getCurrentPath());
                Check.due(where(tree) + "cast to " + type, NUMBERS.contains(type.getKind()), true);
                return super.visitTypeCast(tree, method);
            }

            @Override
            public Void visitWhileLoop(WhileLoopTree tree, String method) {
                Check.due(where(tree) + "a loop without a counter", true, false);
                return super.visitWhileLoop(tree, method);
            }

            @Override
            public Void visitDoWhileLoop(DoWhileLoopTree tree, String method) {
                Check.due(where(tree) + "a loop without a counter", true, false);
                return super.visitDoWhileLoop(tree, method);
            }

            @Override
            public Void visitForLoop(ForLoopTree tree, String method) {
                boolean isCounted = tree.getInitializer().size() == 1 && tree.getUpdate().size() == 1 && tree.getCondition() != null;
                Check.due(where(tree) + "a counter, its step and its bound", isCounted, true);
                return super.visitForLoop(tree, method);
            }

            private boolean isText(ExpressionTree tree) {
                TypeMirror type = trees.getTypeMirror(new TreePath(getCurrentPath(), tree));
                return type != null && type.toString().equals("java.lang.String");
            }
        }.scan(unit, null);
    }

    private String where(Tree tree) {
        long place = trees.getSourcePositions().getStartPosition(unit, tree);
        return place < 0 ? "" : "line " + unit.getLineMap().getLineNumber(place) + ": ";
    }

    private long linesOf(MethodTree tree) {
        long first = trees.getSourcePositions().getStartPosition(unit, tree);
        long last = trees.getSourcePositions().getEndPosition(unit, tree);
        return first < 0 || last < 0 ? 0 : unit.getLineMap().getLineNumber(last) - unit.getLineMap().getLineNumber(first) + 1;
    }

    private static String nameOf(ExecutableElement method) {
        return ((TypeElement) method.getEnclosingElement()).getQualifiedName() + "." + method;
    }

    private static boolean isOwn(String name) {
        return name.startsWith("IceTreaty.");
    }

    private void called(ExecutableElement method, Tree tree, String from) {
        String name = nameOf(method);
        if (!isOwn(name)) {
            boolean isSuper = name.equals("java.lang.Object.Object()");
            Check.due(where(tree) + "library: " + name, isSuper || LIBRARY.contains(name), true);
        } else if (from != null) {
            calls.computeIfAbsent(from, n -> new TreeSet<>()).add(name);
        }
    }

    private static boolean isLawful(TypeMirror type) {
        if (type.getKind() == TypeKind.ARRAY) {
            TypeMirror part = ((ArrayType) type).getComponentType();
            return part.getKind() != TypeKind.ARRAY && isLawful(part) && !part.toString().equals("java.lang.String");
        }
        return NUMBERS.contains(type.getKind()) || type.toString().equals("java.lang.String") || isOwn(type.toString());
    }

    // ---- how deep calls go: methods that call one another are one knot, which counts once ----

    private void depths() {
        Map<String, String> knots = knots();
        Map<String, Integer> known = new HashMap<>();
        int deepest = 0;
        for (String method : calls.keySet()) {
            int depth = depth(knots.get(method), knots, known);
            Check.due("calls from " + method + ": " + depth + " deep", depth <= 8, true);
            deepest = Math.max(deepest, depth);
        }
        Check.due("the calls were seen", deepest > 4 && calls.size() > 150, true);
        // A level of recursion goes through each method of its knot once; ten levels at most (8 open signs, 8 stops).
        int most = 0;
        for (String knot : new HashSet<>(knots.values())) {
            most = Math.max(most, (int) knots.values().stream().filter(knot::equals).count());
        }
        Check.due("methods of a knot: " + most, most <= 5, true);
    }

    /** Each method's knot, named by the least of the methods that it reaches and that reach it. */
    private Map<String, String> knots() {
        Map<String, Set<String>> reach = new HashMap<>();
        for (String method : calls.keySet()) {
            reach.put(method, reachOf(method));
        }
        Map<String, String> knots = new HashMap<>();
        for (String method : calls.keySet()) {
            TreeSet<String> knot = new TreeSet<>(List.of(method));
            for (String other : reach.get(method)) {
                if (reach.getOrDefault(other, Set.of()).contains(method)) {
                    knot.add(other);
                }
            }
            knots.put(method, knot.first());
        }
        return knots;
    }

    private Set<String> reachOf(String method) {
        Set<String> reach = new HashSet<>();
        Deque<String> open = new ArrayDeque<>(calls.get(method));
        while (!open.isEmpty()) {
            String next = open.pop();
            if (reach.add(next)) {
                open.addAll(calls.getOrDefault(next, Set.of()));
            }
        }
        return reach;
    }

    private int depth(String knot, Map<String, String> knots, Map<String, Integer> known) {
        Integer depth = known.get(knot);
        if (depth != null) {
            return depth;
        }
        int deepest = 0;
        for (String method : new ArrayList<>(calls.keySet())) {
            if (!knot.equals(knots.get(method))) {
                continue;
            }
            for (String next : calls.get(method)) {
                String other = knots.get(next);
                if (other != null && !other.equals(knot)) {
                    deepest = Math.max(deepest, depth(other, knots, known));
                }
            }
        }
        known.put(knot, deepest + 1);
        return deepest + 1;
    }
}
