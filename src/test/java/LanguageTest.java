import com.sun.source.tree.CatchTree;
import com.sun.source.tree.ClassTree;
import com.sun.source.tree.CompilationUnitTree;
import com.sun.source.tree.ExpressionTree;
import com.sun.source.tree.MethodTree;
import com.sun.source.tree.Tree;
import com.sun.source.tree.TryTree;
import com.sun.source.tree.VariableTree;
import com.sun.source.util.JavacTask;
import com.sun.source.util.TreePath;
import com.sun.source.util.TreePathScanner;
import com.sun.source.util.Trees;
import java.nio.file.Files;
import java.nio.file.Path;
import java.util.ArrayList;
import java.util.HashMap;
import java.util.List;
import java.util.Map;
import java.util.Set;
import java.util.TreeSet;
import javax.lang.model.element.Element;
import javax.lang.model.element.ElementKind;
import javax.lang.model.element.ExecutableElement;
import javax.lang.model.element.Modifier;
import javax.lang.model.element.TypeElement;
import javax.lang.model.type.TypeMirror;
import javax.tools.JavaCompiler;
import javax.tools.StandardJavaFileManager;
import javax.tools.ToolProvider;

/** The class keeps to ../shared/LANGUAGE.md, as far as its source shows it, and its face is the document's. */
public final class LanguageTest {
    private static final Path SOURCE = Path.of("src/main/java/ShellPair.java");
    private static final int LINES = 60;
    private static final int PARAMETERS = 7;
    private static final int DEPTH = 8;
    private static final int CLASSES = 13;
    private static final int FIELDS = 20;

    private static final Set<String> LIBRARY = Set.of("String.length", "String.charAt", "String.isEmpty",
            "String.equals", "String.indexOf", "String.substring", "String.toCharArray", "StringBuilder.append",
            "StringBuilder.charAt", "StringBuilder.setCharAt", "StringBuilder.setLength",
            "StringBuilder.deleteCharAt", "StringBuilder.reverse", "StringBuilder.length", "StringBuilder.toString",
            "System.arraycopy", "Arrays.copyOf", "Arrays.copyOfRange", "Arrays.fill", "Math.min", "Math.max",
            "Math.abs", "Math.floorMod", "Math.floorDiv", "Integer.bitCount");
    private static final Set<String> EXCEPTIONS = Set.of("IllegalStateException", "IllegalArgumentException",
            "IndexOutOfBoundsException", "ArithmeticException", "UnsupportedOperationException",
            "NoSuchElementException", "RuntimeException");
    private static final Set<Tree.Kind> RULED_OUT = Set.of(Tree.Kind.LAMBDA_EXPRESSION, Tree.Kind.MEMBER_REFERENCE,
            Tree.Kind.SYNCHRONIZED, Tree.Kind.ASSERT, Tree.Kind.SWITCH_EXPRESSION, Tree.Kind.ANNOTATION,
            Tree.Kind.INTERSECTION_TYPE, Tree.Kind.UNION_TYPE, Tree.Kind.YIELD);

    public static void main(String[] args) throws Exception {
        Scan scan = scanned();
        scan.looksAtDepth();
        Check.holds("at most " + CLASSES + " classes", scan.classes <= CLASSES);
        faceIsTheDocuments();
        Check.close();
    }

    private static Scan scanned() throws Exception {
        JavaCompiler compiler = ToolProvider.getSystemJavaCompiler();
        try (StandardJavaFileManager files = compiler.getStandardFileManager(null, null, null)) {
            JavacTask task = (JavacTask) compiler.getTask(null, files, null, List.of("-proc:none"), null,
                    files.getJavaFileObjects(SOURCE));
            CompilationUnitTree unit = task.parse().iterator().next();
            task.analyze();
            Scan scan = new Scan(Trees.instance(task), unit);
            scan.scan(unit, null);
            return scan;
        }
    }

    /** Every line of the face in the document stands in the source, and nothing else is public there. */
    private static void faceIsTheDocuments() throws Exception {
        String document = Files.readString(Path.of("../shared/DOC.md"));
        int from = document.indexOf("public final class ShellPair {");
        Set<String> due = publicOnes(document.substring(from, document.indexOf("```", from)).replace(";", " {"));
        Check.due("the face", publicOnes(Files.readString(SOURCE)).toString(), due.toString());
    }

    private static Set<String> publicOnes(String text) {
        Set<String> all = new TreeSet<>();
        for (String line : text.split("\n")) {
            if (line.matches("\\s*(public|protected)\\b.*")) {
                all.add(line.trim());
            }
        }
        return all;
    }

    /** Goes through the source, and notes who calls whom. */
    private static final class Scan extends TreePathScanner<Void, Void> {
        private final Trees trees;
        private final CompilationUnitTree unit;
        private final Map<String, Set<String>> calls = new HashMap<>();
        private final Map<String, Set<String>> overridden = new HashMap<>();
        private final Map<String, Integer> depths = new HashMap<>();
        private String method = "";
        int classes;

        Scan(Trees trees, CompilationUnitTree unit) {
            this.trees = trees;
            this.unit = unit;
        }

        private void fault(Tree at, String what) {
            long place = trees.getSourcePositions().getStartPosition(unit, at);
            Check.holds("line " + unit.getLineMap().getLineNumber(place) + ": " + what, false);
        }

        @Override
        public Void scan(Tree tree, Void p) {
            if (tree != null && RULED_OUT.contains(tree.getKind())) {
                fault(tree, "no " + tree.getKind());
            }
            return super.scan(tree, p);
        }

        @Override
        public Void visitClass(ClassTree tree, Void p) {
            classes++;
            boolean outer = getCurrentPath().getParentPath().getLeaf() instanceof CompilationUnitTree;
            Set<Modifier> marks = tree.getModifiers().getFlags();
            if (outer && !(marks.contains(Modifier.PUBLIC) && marks.contains(Modifier.FINAL))
                    || !outer && !(marks.contains(Modifier.PRIVATE) && marks.contains(Modifier.STATIC))) {
                fault(tree, "a class is private and static, the outer one public and final");
            }
            int fields = 0;
            for (Tree member : tree.getMembers()) {
                if (member.getKind() == Tree.Kind.BLOCK) {
                    fault(member, "no initialiser block");
                }
                if (member instanceof VariableTree && !isStatic((VariableTree) member)) {
                    fields++;
                }
                if (outer && !(member instanceof ClassTree)) {
                    looksAtOuter(member);
                }
            }
            if (fields > FIELDS) {
                fault(tree, fields + " fields");
            }
            return super.visitClass(tree, p);
        }

        private void looksAtOuter(Tree member) {
            Set<Modifier> marks = member instanceof MethodTree ? ((MethodTree) member).getModifiers().getFlags()
                    : ((VariableTree) member).getModifiers().getFlags();
            if (!marks.contains(Modifier.PRIVATE) && !marks.contains(Modifier.PUBLIC)) {
                fault(member, "neither public nor private");
            }
        }

        private static boolean isStatic(VariableTree tree) {
            return tree.getModifiers().getFlags().contains(Modifier.STATIC);
        }

        @Override
        public Void visitVariable(VariableTree tree, Void p) {
            if (isStatic(tree)) {
                String type = tree.getType().toString();
                boolean array = type.matches("(int|long|char|byte)\\[\\]")
                        && tree.getInitializer().getKind() == Tree.Kind.NEW_ARRAY;
                if (!tree.getModifiers().getFlags().contains(Modifier.FINAL)
                        || !array && !type.matches("int|long|boolean|char|String")) {
                    fault(tree, "static state");
                }
            }
            return super.visitVariable(tree, p);
        }

        @Override
        public Void visitMethod(MethodTree tree, Void p) {
            String before = method;
            Element element = trees.getElement(getCurrentPath());
            method = nameOf(element);
            calls.computeIfAbsent(method, k -> new TreeSet<>());
            notesOverriding((ExecutableElement) element);
            if (tree.getParameters().size() > PARAMETERS) {
                fault(tree, "too many parameters");
            }
            if (tree.getBody() != null && line(tree.getBody(), true) - line(tree, false) + 1 > LINES) {
                fault(tree, "too long");
            }
            super.visitMethod(tree, p);
            method = before;
            return null;
        }

        private long line(Tree tree, boolean end) {
            long place = end ? trees.getSourcePositions().getEndPosition(unit, tree)
                    : trees.getSourcePositions().getStartPosition(unit, tree);
            return unit.getLineMap().getLineNumber(place);
        }

        private static String nameOf(Element element) {
            return element.getEnclosingElement().getSimpleName() + "." + element.getSimpleName()
                    + ((ExecutableElement) element).getParameters().size();
        }

        private void notesOverriding(ExecutableElement element) {
            TypeMirror above = ((TypeElement) element.getEnclosingElement()).getSuperclass();
            String name = above + "." + element.getSimpleName() + element.getParameters().size();
            if (element.getKind() == ElementKind.METHOD && name.startsWith("ShellPair.")) {
                overridden.computeIfAbsent(name.substring("ShellPair.".length()), k -> new TreeSet<>())
                        .add(nameOf(element));
            }
        }

        @Override
        public Void visitMethodInvocation(com.sun.source.tree.MethodInvocationTree tree, Void p) {
            notesCall(tree, trees.getElement(getCurrentPath()));
            return super.visitMethodInvocation(tree, p);
        }

        @Override
        public Void visitNewClass(com.sun.source.tree.NewClassTree tree, Void p) {
            notesCall(tree, trees.getElement(getCurrentPath()));
            return super.visitNewClass(tree, p);
        }

        private void notesCall(Tree tree, Element element) {
            Element owner = element.getEnclosingElement();
            String type = owner.getSimpleName().toString();
            boolean own = owner.toString().startsWith("ShellPair");
            if (own) {
                calls.computeIfAbsent(method, k -> new TreeSet<>()).add(nameOf(element));
            } else if (element.getKind() == ElementKind.CONSTRUCTOR) {
                boolean fine = type.equals("Object") || type.equals("StringBuilder") || type.equals("ArrayList")
                        || type.equals("String") || EXCEPTIONS.contains(type);
                if (!fine) {
                    fault(tree, "new " + type);
                }
            } else if (!LIBRARY.contains(type + "." + element.getSimpleName())) {
                fault(tree, "no " + type + "." + element.getSimpleName());
            }
        }

        @Override
        public Void visitTry(TryTree tree, Void p) {
            if (tree.getFinallyBlock() != null || !tree.getResources().isEmpty()) {
                fault(tree, "no finally and no resources");
            }
            return super.visitTry(tree, p);
        }

        @Override
        public Void visitCatch(CatchTree tree, Void p) {
            String caught = tree.getParameter().getType().toString();
            if (!Set.of("IllegalStateException", "IllegalArgumentException", "NoSuchElementException",
                    "UnsupportedOperationException").contains(caught)) {
                fault(tree, "what the machine throws is not caught");
            }
            return super.visitCatch(tree, p);
        }

        @Override
        public Void visitThrow(com.sun.source.tree.ThrowTree tree, Void p) {
            boolean made = tree.getExpression().getKind() == Tree.Kind.NEW_CLASS;
            if (!made || method.contains("<init>") || !method.startsWith("ShellPair.")) {
                fault(tree, "only calls of the face throw, and what they make there");
            }
            return super.visitThrow(tree, p);
        }

        @Override
        public Void visitBinary(com.sun.source.tree.BinaryTree tree, Void p) {
            boolean text = isText(tree.getLeftOperand()) || isText(tree.getRightOperand());
            if (text) {
                fault(tree, "texts are neither joined by + nor looked at by ==");
            }
            return super.visitBinary(tree, p);
        }

        private boolean isText(ExpressionTree tree) {
            TypeMirror type = trees.getTypeMirror(new TreePath(getCurrentPath(), tree));
            return type != null && type.toString().equals("java.lang.String");
        }

        void looksAtDepth() {
            for (String name : new ArrayList<>(calls.keySet())) {
                if (name.startsWith("ShellPair.")) {
                    Check.holds(name + " goes " + depthOf(name, 0) + " deep", depthOf(name, 0) <= DEPTH);
                }
            }
        }

        /** How many calls stand open at once, this one too; 0 levels is none. */
        private int depthOf(String name, int above) {
            if (above > 100) {
                Check.holds("no recursion: " + name, false);
                return 0;
            }
            Integer known = depths.get(name);
            if (known != null) {
                return known;
            }
            int deepest = 0;
            for (String called : calls.getOrDefault(name, Set.of())) {
                deepest = Math.max(deepest, depthOf(called, above + 1));
            }
            int depth = deepest + 1;
            for (String other : overridden.getOrDefault(name, Set.of())) {
                depth = Math.max(depth, depthOf(other, above + 1));
            }
            depths.put(name, depth);
            return depth;
        }
    }
}
