import com.sun.source.tree.AssertTree;
import com.sun.source.tree.BinaryTree;
import com.sun.source.tree.BlockTree;
import com.sun.source.tree.ClassTree;
import com.sun.source.tree.CompilationUnitTree;
import com.sun.source.tree.DoWhileLoopTree;
import com.sun.source.tree.ForLoopTree;
import com.sun.source.tree.ImportTree;
import com.sun.source.tree.LambdaExpressionTree;
import com.sun.source.tree.MemberReferenceTree;
import com.sun.source.tree.MethodInvocationTree;
import com.sun.source.tree.MethodTree;
import com.sun.source.tree.NewArrayTree;
import com.sun.source.tree.NewClassTree;
import com.sun.source.tree.SynchronizedTree;
import com.sun.source.tree.ThrowTree;
import com.sun.source.tree.Tree;
import com.sun.source.tree.TryTree;
import com.sun.source.tree.VariableTree;
import com.sun.source.tree.WhileLoopTree;
import com.sun.source.util.JavacTask;
import com.sun.source.util.TreePath;
import com.sun.source.util.TreePathScanner;
import com.sun.source.util.Trees;
import java.nio.file.Files;
import java.nio.file.Path;
import java.util.HashMap;
import java.util.LinkedHashMap;
import java.util.LinkedHashSet;
import java.util.List;
import java.util.Map;
import java.util.Set;
import java.util.regex.Matcher;
import java.util.regex.Pattern;
import javax.lang.model.element.Element;
import javax.lang.model.element.ElementKind;
import javax.lang.model.element.Modifier;
import javax.lang.model.type.TypeMirror;
import javax.tools.JavaCompiler;
import javax.tools.StandardJavaFileManager;
import javax.tools.ToolProvider;

/** The rules of LANGUAGE.md that can be seen in the source as the compiler reads it. */
public final class LanguageTest {
    private static final Path SOURCE = Path.of("src/main/java/WolfsHead.java");
    private static final Set<String> LIBRARY = Set.of("String.length", "String.charAt", "String.isEmpty",
        "String.equals", "String.indexOf", "String.substring", "String.toCharArray", "Math.max", "Math.min",
        "Math.abs", "Math.floorDiv", "Math.floorMod", "Integer.compare", "Integer.max", "Integer.min",
        "Integer.bitCount", "Long.compare", "Long.bitCount", "System.arraycopy", "Arrays.copyOf",
        "Arrays.copyOfRange", "Arrays.fill");
    private static final Set<String> PLAIN = Set.of("int", "long", "short", "byte", "char", "boolean", "void",
        "java.lang.String");
    private static final Set<String> CONSTANTS = Set.of("int", "long", "boolean", "char", "java.lang.String",
        "int[]", "long[]", "char[]", "byte[]");
    private static final Path DOCUMENT = Path.of("../shared/DOC.md");
    private static final Pattern PROMISE = Pattern.compile("## Promise (\\d+): (\\w+)");
    private static final int MOST_DEEP = 8;
    private static final int MOST_LINES = 60;

    public static void main(String[] args) throws Exception {
        signs();
        JavaCompiler compiler = ToolProvider.getSystemJavaCompiler();
        try (StandardJavaFileManager files = compiler.getStandardFileManager(null, null, null)) {
            JavacTask task = (JavacTask) compiler.getTask(null, files, null, List.of("-proc:none"), null,
                files.getJavaFileObjects(SOURCE));
            CompilationUnitTree unit = task.parse().iterator().next();
            task.analyze();
            Rules rules = new Rules(Trees.instance(task), unit);
            rules.scan(unit, null);
            rules.sizes();
            rules.depths(promises());
        }
        Due.done();
    }

    private static Map<String, String> promises() throws Exception {
        Map<String, String> promises = new HashMap<>();
        Matcher heading = PROMISE.matcher(Files.readString(DOCUMENT));
        while (heading.find()) {
            promises.put(heading.group(2), "P" + heading.group(1));
        }
        return promises;
    }

    private static void signs() throws Exception {
        for (char sign : Files.readString(SOURCE).toCharArray()) {
            Due.is("rule 4: signs are plain", sign == '\n' || sign >= 32 && sign < 127, true);
        }
    }

    private static final class Rules extends TreePathScanner<Void, Void> {
        private final Trees trees;
        private final CompilationUnitTree unit;
        private final Map<Element, Set<Element>> calls = new LinkedHashMap<>();
        private final Map<Element, Integer> fields = new HashMap<>();
        private final Map<Element, Integer> depths = new HashMap<>();
        private int classes = 0;

        Rules(Trees trees, CompilationUnitTree unit) {
            this.trees = trees;
            this.unit = unit;
        }

        private static void never(int rule, String what) {
            Due.is("rule " + rule + ": there is " + what, true, false);
        }

        private Element element() {
            return trees.getElement(getCurrentPath());
        }

        private static boolean own(Element element) {
            Element at = element;
            while (at.getEnclosingElement() != null && at.getEnclosingElement().getKind() != ElementKind.PACKAGE) {
                at = at.getEnclosingElement();
            }
            return at.getSimpleName().contentEquals("WolfsHead");
        }

        @Override
        public Void visitImport(ImportTree tree, Void none) {
            never(4, "an import");
            return super.visitImport(tree, none);
        }

        @Override
        public Void visitClass(ClassTree tree, Void none) {
            classes++;
            Element its = element();
            boolean inside = its.getEnclosingElement().getKind() != ElementKind.PACKAGE;
            Set<Modifier> said = its.getModifiers();
            boolean hidden = !said.contains(Modifier.PUBLIC) && !said.contains(Modifier.PROTECTED);
            Due.is("rule 1: " + its + " is hidden, or the face", hidden, inside);
            Due.is("rule 2: " + its + " is static, or the face", said.contains(Modifier.STATIC), inside);
            boolean local = inside && !its.getEnclosingElement().getKind().isClass();
            Due.is("rule 2: " + its + " is local or has no name", local || its.getSimpleName().length() == 0, false);
            return super.visitClass(tree, none);
        }

        @Override
        public Void visitVariable(VariableTree tree, Void none) {
            Element its = element();
            TypeMirror type = its.asType();
            String bare = type.toString().replaceAll("(\\[\\])+$", "");
            Due.is("rule 3: " + its + " is of " + type, PLAIN.contains(bare) || bare.startsWith("WolfsHead"), true);
            if (its.getKind() == ElementKind.FIELD) {
                field(its);
            }
            return super.visitVariable(tree, none);
        }

        private void field(Element its) {
            if (its.getModifiers().contains(Modifier.STATIC)) {
                Due.is("rule 5: " + its + " is final", its.getModifiers().contains(Modifier.FINAL), true);
                Due.is("rule 5: " + its + " is of " + its.asType(), CONSTANTS.contains(its.asType().toString()), true);
            } else {
                fields.merge(its.getEnclosingElement(), 1, Integer::sum);
            }
        }

        @Override
        public Void visitMethod(MethodTree tree, Void none) {
            calls.putIfAbsent(element(), new LinkedHashSet<>());
            String name = element().toString();
            Due.is("rule 11: " + name + " takes at most seven", tree.getParameters().size() <= 7, true);
            Due.is("rule 6: " + name + " throws", tree.getThrows().isEmpty(), true);
            // what the compiler adds itself has no end in the source
            long end = trees.getSourcePositions().getEndPosition(unit, tree);
            if (end >= 0) {
                long from = unit.getLineMap().getLineNumber(trees.getSourcePositions().getStartPosition(unit, tree));
                long lines = unit.getLineMap().getLineNumber(end) - from + 1;
                Due.is("rule 11: " + name + " is short", lines <= MOST_LINES, true);
            }
            return super.visitMethod(tree, none);
        }

        private Element around() {
            for (TreePath at = getCurrentPath(); at != null; at = at.getParentPath()) {
                if (at.getLeaf() instanceof MethodTree) {
                    return trees.getElement(at);
                }
            }
            return null;
        }

        @Override
        public Void visitMethodInvocation(MethodInvocationTree tree, Void none) {
            Element called = element();
            Element by = around();
            boolean base = called.getKind() == ElementKind.CONSTRUCTOR;
            if (!own(called) && !base) {
                String name = called.getEnclosingElement().getSimpleName() + "." + called.getSimpleName();
                Due.is("rule 4: the library's " + name, LIBRARY.contains(name), true);
            }
            if (by != null && !base) {
                calls.computeIfAbsent(by, key -> new LinkedHashSet<>()).add(called);
            }
            return super.visitMethodInvocation(tree, none);
        }

        private void madeWithTheObject(String what) {
            Element by = around();
            boolean first = by == null || by.getKind() == ElementKind.CONSTRUCTOR;
            Due.is("rule 12: " + by + " makes " + what, first, true);
        }

        @Override
        public Void visitNewClass(NewClassTree tree, Void none) {
            madeWithTheObject(tree.toString());
            Due.is("rule 2: a class without a name", tree.getClassBody() == null, true);
            return super.visitNewClass(tree, none);
        }

        @Override
        public Void visitNewArray(NewArrayTree tree, Void none) {
            madeWithTheObject(tree.toString());
            return super.visitNewArray(tree, none);
        }

        @Override
        public Void visitBinary(BinaryTree tree, Void none) {
            String type = String.valueOf(trees.getTypeMirror(getCurrentPath()));
            Due.is("rule 10: texts aren't joined by +", type.equals("java.lang.String"), false);
            return super.visitBinary(tree, none);
        }

        private static void bounded(Tree condition) {
            boolean seen = condition != null && !condition.toString().matches("\\(*true\\)*");
            Due.is("rule 9: a loop has an end: " + condition, seen, true);
        }

        @Override
        public Void visitForLoop(ForLoopTree tree, Void none) {
            bounded(tree.getCondition());
            return super.visitForLoop(tree, none);
        }

        @Override
        public Void visitWhileLoop(WhileLoopTree tree, Void none) {
            bounded(tree.getCondition());
            return super.visitWhileLoop(tree, none);
        }

        @Override
        public Void visitDoWhileLoop(DoWhileLoopTree tree, Void none) {
            bounded(tree.getCondition());
            return super.visitDoWhileLoop(tree, none);
        }

        @Override
        public Void visitBlock(BlockTree tree, Void none) {
            boolean loose = getCurrentPath().getParentPath().getLeaf() instanceof ClassTree;
            Due.is("rule 5: a block that starts a class", loose, false);
            return super.visitBlock(tree, none);
        }

        @Override
        public Void visitThrow(ThrowTree tree, Void none) {
            never(6, "a throw");
            return super.visitThrow(tree, none);
        }

        @Override
        public Void visitTry(TryTree tree, Void none) {
            never(6, "a try");
            return super.visitTry(tree, none);
        }

        @Override
        public Void visitSynchronized(SynchronizedTree tree, Void none) {
            never(6, "a synchronized");
            return super.visitSynchronized(tree, none);
        }

        @Override
        public Void visitAssert(AssertTree tree, Void none) {
            never(6, "an assert");
            return super.visitAssert(tree, none);
        }

        @Override
        public Void visitLambdaExpression(LambdaExpressionTree tree, Void none) {
            never(2, "a lambda");
            return super.visitLambdaExpression(tree, none);
        }

        @Override
        public Void visitMemberReference(MemberReferenceTree tree, Void none) {
            never(2, "a method reference");
            return super.visitMemberReference(tree, none);
        }

        void sizes() {
            Due.is("rule 11: at most twelve classes", classes <= 12, true);
            for (Map.Entry<Element, Integer> each : fields.entrySet()) {
                Due.is("rule 11: " + each.getKey() + " has at most twenty fields", each.getValue() <= 20, true);
            }
        }

        void depths(Map<String, String> promises) {
            int open = 0;
            for (Element method : calls.keySet()) {
                String promise = promises.get(method.getSimpleName().toString());
                if (method.getModifiers().contains(Modifier.PUBLIC) && promise != null) {
                    open++;
                    Due.is(promise + " rule 11: " + method + " goes at most eight deep", depth(method) <= MOST_DEEP, true);
                }
            }
            Due.is("promises 2 to 48 have a method each", open, 47);
        }

        /** Methods that call one another around count as one: the rule leaves recursion out. */
        private int depth(Element method) {
            Integer known = depths.get(method);
            if (known != null) {
                return known;
            }
            Set<Element> round = round(method);
            int deepest = 0;
            for (Element each : round) {
                for (Element called : calls.getOrDefault(each, Set.of())) {
                    deepest = round.contains(called) ? deepest : Math.max(deepest, depth(called));
                }
            }
            depths.put(method, deepest + 1);
            return deepest + 1;
        }

        private Set<Element> round(Element method) {
            Set<Element> round = new LinkedHashSet<>(Set.of(method));
            for (Element each : reached(method)) {
                if (reached(each).contains(method)) {
                    round.add(each);
                }
            }
            return round;
        }

        private Set<Element> reached(Element from) {
            Set<Element> reached = new LinkedHashSet<>(calls.getOrDefault(from, Set.of()));
            for (boolean grows = true; grows;) {
                Set<Element> wider = new LinkedHashSet<>(reached);
                for (Element each : reached) {
                    wider.addAll(calls.getOrDefault(each, Set.of()));
                }
                grows = wider.size() > reached.size();
                reached = wider;
            }
            return reached;
        }
    }
}
