import com.sun.source.tree.ArrayAccessTree;
import com.sun.source.tree.AssignmentTree;
import com.sun.source.tree.BinaryTree;
import com.sun.source.tree.BlockTree;
import com.sun.source.tree.ClassTree;
import com.sun.source.tree.CompilationUnitTree;
import com.sun.source.tree.ExpressionTree;
import com.sun.source.tree.IdentifierTree;
import com.sun.source.tree.LineMap;
import com.sun.source.tree.MemberSelectTree;
import com.sun.source.tree.MethodInvocationTree;
import com.sun.source.tree.MethodTree;
import com.sun.source.tree.NewClassTree;
import com.sun.source.tree.Tree;
import com.sun.source.tree.VariableTree;
import com.sun.source.util.JavacTask;
import com.sun.source.util.TreePath;
import com.sun.source.util.TreePathScanner;
import com.sun.source.util.Trees;
import java.io.File;
import java.io.IOException;
import java.util.ArrayList;
import java.util.EnumSet;
import java.util.HashMap;
import java.util.HashSet;
import java.util.List;
import java.util.Map;
import java.util.Set;
import java.util.TreeSet;
import javax.lang.model.element.Element;
import javax.lang.model.element.ElementKind;
import javax.lang.model.element.ExecutableElement;
import javax.lang.model.element.Modifier;
import javax.lang.model.element.TypeElement;
import javax.lang.model.type.ArrayType;
import javax.lang.model.type.DeclaredType;
import javax.lang.model.type.TypeMirror;
import javax.tools.JavaCompiler;
import javax.tools.StandardJavaFileManager;
import javax.tools.ToolProvider;

/** The rules of LANGUAGE.md that can be seen from the source of the class; each line that is printed begins with its rule. */
public final class LanguageTest {
    private static final File SOURCE = new File("src/main/java/SkittleMen.java");

    public static void main(String[] args) throws IOException {
        JavaCompiler compiler = ToolProvider.getSystemJavaCompiler();
        try (StandardJavaFileManager files = compiler.getStandardFileManager(null, null, null)) {
            JavacTask task = (JavacTask) compiler.getTask(null, files, null, List.of("-proc:none", "-implicit:none"), null,
                files.getJavaFileObjects(SOURCE));
            Iterable<? extends CompilationUnitTree> units = task.parse();
            task.analyze();
            for (CompilationUnitTree unit : units) {
                Look look = new Look(Trees.instance(task), unit);
                look.scan(unit, null);
                look.end();
            }
        }
        Due.end();
    }

    private static final class Look extends TreePathScanner<Void, Void> {
        private static final Set<Tree.Kind> REFUSED = EnumSet.of(Tree.Kind.THROW, Tree.Kind.TRY, Tree.Kind.SYNCHRONIZED,
            Tree.Kind.ASSERT, Tree.Kind.LAMBDA_EXPRESSION, Tree.Kind.MEMBER_REFERENCE, Tree.Kind.PACKAGE);
        // Of the types and the library that the rules leave, what the class uses; more may come in here, as far as the rules go.
        private static final Set<String> LIBRARY = Set.of("String.length", "String.charAt", "String.isEmpty", "String.equals",
            "String.indexOf", "String.substring", "String.toCharArray", "Integer.bitCount", "Math.max", "Math.min", "Math.abs",
            "System.arraycopy", "Arrays.copyOf", "Arrays.copyOfRange", "Arrays.fill", "Array.length", "Object.<init>");
        private static final Set<String> PLAIN = Set.of("int", "long", "short", "byte", "char", "boolean", "void", "String");
        private static final Set<String> CONSTANT = Set.of("int", "long", "boolean", "char", "String", "int[]", "long[]", "char[]", "byte[]");
        private static final int MOST_DEEP = 8, MOST_LINES = 60, MOST_GIVEN = 7, MOST_CLASSES = 12, MOST_FIELDS = 20;

        private final Trees trees;
        private final CompilationUnitTree unit;
        private final LineMap lines;
        private final Map<Element, Set<Element>> calls = new HashMap<>();
        private final Set<Element> classes = new HashSet<>();

        Look(Trees trees, CompilationUnitTree unit) {
            this.trees = trees;
            this.unit = unit;
            lines = unit.getLineMap();
        }

        private long lineOf(long place) {
            return lines.getLineNumber(place);
        }

        private long startOf(Tree tree) {
            return trees.getSourcePositions().getStartPosition(unit, tree);
        }

        private void wrong(int rule, Tree at, String what) {
            Due.outside("rule " + rule + ": line " + lineOf(startOf(at)) + ": " + what);
        }

        @Override
        public Void scan(Tree tree, Void nothing) {
            if (tree != null && REFUSED.contains(tree.getKind())) {
                wrong(6, tree, "there is a " + tree.getKind());
            }
            return super.scan(tree, nothing);
        }

        private boolean isOwn(Element e) {
            Element at = e;
            while (at != null && !(at instanceof TypeElement t && t.getQualifiedName().contentEquals("SkittleMen"))) {
                at = at.getEnclosingElement();
            }
            return at != null;
        }

        /** What the name stands for is the class's own, or of the library that the rules leave. */
        private void use(Element e, Tree at) {
            if (e == null || isOwn(e)) {
                return;
            }
            boolean member = e.getKind() == ElementKind.METHOD || e.getKind() == ElementKind.CONSTRUCTOR || e.getKind() == ElementKind.FIELD;
            String name = member ? e.getEnclosingElement().getSimpleName() + "." + e.getSimpleName() : "";
            if (member && !LIBRARY.contains(name) && !e.getSimpleName().contentEquals("super")) {
                wrong(4, at, name + " is not of the library that is left");
            }
        }

        private Element here() {
            TreePath path = getCurrentPath();
            while (path != null && !(path.getLeaf() instanceof MethodTree)) {
                path = path.getParentPath();
            }
            return path == null ? null : trees.getElement(path);
        }

        private void call(Element e) {
            Element from = here();
            if (from != null && e != null) {
                calls.computeIfAbsent(from, k -> new HashSet<>()).add(e);
            }
        }

        @Override
        public Void visitIdentifier(IdentifierTree tree, Void nothing) {
            use(trees.getElement(getCurrentPath()), tree);
            return super.visitIdentifier(tree, nothing);
        }

        @Override
        public Void visitMemberSelect(MemberSelectTree tree, Void nothing) {
            use(trees.getElement(getCurrentPath()), tree);
            return super.visitMemberSelect(tree, nothing);
        }

        @Override
        public Void visitMethodInvocation(MethodInvocationTree tree, Void nothing) {
            Element e = trees.getElement(getCurrentPath());
            call(e);
            handsOut(e, tree.getArguments());
            return super.visitMethodInvocation(tree, nothing);
        }

        @Override
        public Void visitNewClass(NewClassTree tree, Void nothing) {
            Element e = trees.getElement(getCurrentPath());
            use(e, tree);
            call(e);
            handsOut(e, tree.getArguments());
            if (tree.getClassBody() != null) {
                wrong(2, tree, "a class without a name");
            }
            return super.visitNewClass(tree, nothing);
        }

        /** While an object is made, what is its own is not given to a method or a constructor of the class. */
        private void handsOut(Element to, List<? extends ExpressionTree> given) {
            Element from = here();
            if (from != null && from.getKind() != ElementKind.CONSTRUCTOR || !isOwn(to)) {
                return;
            }
            for (ExpressionTree one : given) {
                Element e = trees.getElement(new TreePath(getCurrentPath(), one));
                if (e != null && e.getKind() == ElementKind.FIELD && !e.getModifiers().contains(Modifier.STATIC)) {
                    wrong(12, one, "a constructor hands out " + one);
                }
            }
        }

        @Override
        public Void visitClass(ClassTree tree, Void nothing) {
            Element e = trees.getElement(getCurrentPath());
            classes.add(e);
            if (e.getEnclosingElement().getKind() != ElementKind.PACKAGE
                    && (!(e.getEnclosingElement() instanceof TypeElement) || !e.getModifiers().contains(Modifier.STATIC))) {
                wrong(2, tree, tree.getSimpleName() + " is not a static class right inside another one");
            }
            long fields = tree.getMembers().stream()
                .filter(m -> m instanceof VariableTree v && !v.getModifiers().getFlags().contains(Modifier.STATIC)).count();
            if (fields > MOST_FIELDS) {
                wrong(11, tree, tree.getSimpleName() + " has " + fields + " fields");
            }
            for (Tree member : tree.getMembers()) {
                if (member instanceof BlockTree block && block.isStatic()) {
                    wrong(5, member, "a static initialiser block");
                }
            }
            return super.visitClass(tree, nothing);
        }

        @Override
        public Void visitMethod(MethodTree tree, Void nothing) {
            long end = trees.getSourcePositions().getEndPosition(unit, tree);
            long many = end < 0 ? 0 : lineOf(end) - lineOf(startOf(tree)) + 1;
            if (many > MOST_LINES) {
                wrong(11, tree, tree.getName() + " has " + many + " lines");
            }
            if (tree.getParameters().size() > MOST_GIVEN) {
                wrong(11, tree, tree.getName() + " takes " + tree.getParameters().size() + " parameters");
            }
            return super.visitMethod(tree, nothing);
        }

        @Override
        public Void visitVariable(VariableTree tree, Void nothing) {
            Element e = trees.getElement(getCurrentPath());
            String type = shortName(e.asType());
            TypeMirror one = e.asType() instanceof ArrayType row ? row.getComponentType() : e.asType();
            if (!PLAIN.contains(shortName(one)) && !(one instanceof DeclaredType d && isOwn(d.asElement()))) {
                wrong(3, tree, tree.getName() + " is of the type " + type);
            }
            if (e.getModifiers().contains(Modifier.STATIC)) {
                boolean written = !type.endsWith("[]") || tree.getInitializer() != null && tree.getInitializer().getKind() == Tree.Kind.NEW_ARRAY;
                if (!e.getModifiers().contains(Modifier.FINAL) || !CONSTANT.contains(type) || !written) {
                    wrong(5, tree, tree.getName() + " is no constant");
                }
            }
            return super.visitVariable(tree, nothing);
        }

        private static String shortName(TypeMirror type) {
            String name = type.toString();
            return name.substring(name.lastIndexOf('.') + 1);
        }

        @Override
        public Void visitAssignment(AssignmentTree tree, Void nothing) {
            if (tree.getVariable() instanceof ArrayAccessTree a) {
                Element e = trees.getElement(new TreePath(getCurrentPath(), a.getExpression()));
                if (e != null && e.getModifiers().contains(Modifier.STATIC)) {
                    wrong(5, tree, e + " is changed");
                }
            }
            return super.visitAssignment(tree, nothing);
        }

        @Override
        public Void visitBinary(BinaryTree tree, Void nothing) {
            boolean joins = Set.of(Tree.Kind.PLUS, Tree.Kind.EQUAL_TO, Tree.Kind.NOT_EQUAL_TO).contains(tree.getKind());
            TypeMirror left = trees.getTypeMirror(new TreePath(getCurrentPath(), tree.getLeftOperand()));
            TypeMirror right = trees.getTypeMirror(new TreePath(getCurrentPath(), tree.getRightOperand()));
            boolean texts = Set.of("String", "Integer").contains(shortName(left)) || Set.of("String", "Integer").contains(shortName(right));
            if (joins && texts) {
                wrong(6, tree, "texts or Integers by " + tree.getKind());
            }
            return super.visitBinary(tree, nothing);
        }

        /** How many calls stand open at most, this one with it; one that calls itself counts once, and needs a depth. */
        private int deep(Element e, List<Element> open, Map<Element, Integer> known) {
            if (known.containsKey(e)) {
                return known.get(e);
            }
            int most = 0;
            for (Element next : calls.getOrDefault(e, Set.of())) {
                if (next.equals(e)) {
                    if (!hasDepth(e)) {
                        Due.outside("rule 8: " + e + " calls itself without a depth");
                    }
                } else if (open.contains(next)) {
                    Due.outside("rule 8: " + e + " and " + next + " call one another");
                } else {
                    List<Element> with = new ArrayList<>(open);
                    with.add(next);
                    most = Math.max(most, deep(next, with, known));
                }
            }
            known.put(e, most + 1);
            return most + 1;
        }

        private static boolean hasDepth(Element e) {
            return e instanceof ExecutableElement m && m.getParameters().stream().anyMatch(p -> p.getSimpleName().contentEquals("depth"));
        }

        void end() {
            if (classes.size() > MOST_CLASSES) {
                Due.outside("rule 11: there are " + classes.size() + " classes");
            }
            Map<Element, Integer> known = new HashMap<>();
            Set<String> deepest = new TreeSet<>();
            for (Element e : calls.keySet()) {
                if (deep(e, List.of(e), known) > MOST_DEEP) {
                    deepest.add(e.toString() + " goes " + known.get(e) + " deep");
                }
            }
            for (String one : deepest) {
                Due.outside("rule 11: " + one);
            }
        }
    }
}
