import com.sun.source.tree.AssertTree;
import com.sun.source.tree.CatchTree;
import com.sun.source.tree.ClassTree;
import com.sun.source.tree.CompilationUnitTree;
import com.sun.source.tree.ImportTree;
import com.sun.source.tree.LambdaExpressionTree;
import com.sun.source.tree.MemberReferenceTree;
import com.sun.source.tree.MethodInvocationTree;
import com.sun.source.tree.MethodTree;
import com.sun.source.tree.NewClassTree;
import com.sun.source.tree.SynchronizedTree;
import com.sun.source.tree.ThrowTree;
import com.sun.source.tree.Tree;
import com.sun.source.tree.VariableTree;
import com.sun.source.util.JavacTask;
import com.sun.source.util.TreePathScanner;
import com.sun.source.util.Trees;
import java.io.File;
import java.util.ArrayList;
import java.util.Arrays;
import java.util.HashSet;
import java.util.LinkedHashMap;
import java.util.LinkedHashSet;
import java.util.List;
import java.util.Map;
import java.util.Set;
import javax.lang.model.element.Element;
import javax.lang.model.element.ElementKind;
import javax.lang.model.element.Modifier;
import javax.tools.JavaCompiler;
import javax.tools.StandardJavaFileManager;
import javax.tools.ToolProvider;

/** What ../shared/LANGUAGE.md asks of the source and a program can look up. */
public final class LanguageTest {
    private static final String SOURCE = "src/main/java/GrottoHours.java";
    private static final int MOST_CALLS_DEEP = 8;
    private static final Set<String> LIBRARY = new HashSet<>(Arrays.asList("String.length", "String.charAt",
        "String.indexOf", "Math.max", "Math.min", "Integer.bitCount", "System.arraycopy", "Object.<init>"));
    private static final Set<String> EXCEPTIONS = new HashSet<>(Arrays.asList("NoSuchElementException",
        "IllegalArgumentException"));

    private static final Map<String, Set<String>> CALLS = new LinkedHashMap<>();
    private static final Set<String> PUBLIC_NAMES = new LinkedHashSet<>();
    private static final List<String> OTHER_NAMES = new ArrayList<>();

    public static void main(String[] args) throws Exception {
        JavaCompiler compiler = ToolProvider.getSystemJavaCompiler();
        StandardJavaFileManager files = compiler.getStandardFileManager(null, null, null);
        JavacTask task = (JavacTask) compiler.getTask(null, files, null, Arrays.asList("-proc:none"), null,
            files.getJavaFileObjects(new File(SOURCE)));
        CompilationUnitTree unit = task.parse().iterator().next();
        task.analyze();
        Trees trees = Trees.instance(task);
        new Look(trees, unit).scan(unit, null);
        for (String name : OTHER_NAMES) {
            Check.isTrue("no public method's name: " + name, !PUBLIC_NAMES.contains(name));
        }
        callsAreFlat();
        Check.end();
    }

    /** Methods that reach themselves are recursion; a row of others goes at most so deep. */
    private static void callsAreFlat() {
        Set<String> recursive = new HashSet<>();
        for (String method : CALLS.keySet()) {
            if (reaches(method, method, new HashSet<>())) {
                recursive.add(method);
            }
        }
        for (String method : recursive) {
            Check.isTrue("recursion in the reader alone: " + method, method.startsWith("Reader.read"));
        }
        for (String method : CALLS.keySet()) {
            int deep = depth(method, recursive, new HashSet<>());
            Check.isTrue(method + " is " + deep + " calls deep", deep <= MOST_CALLS_DEEP);
        }
    }

    private static boolean reaches(String from, String to, Set<String> been) {
        for (String called : CALLS.getOrDefault(from, Set.of())) {
            if (called.equals(to) || been.add(called) && reaches(called, to, been)) {
                return true;
            }
        }
        return false;
    }

    private static int depth(String method, Set<String> recursive, Set<String> open) {
        int deepest = 0;
        open.add(method);
        for (String called : CALLS.getOrDefault(method, Set.of())) {
            if (!open.contains(called)) {
                deepest = Math.max(deepest, depth(called, recursive, open));
            }
        }
        open.remove(method);
        return deepest + (recursive.contains(method) ? 0 : 1);
    }

    private static final class Look extends TreePathScanner<Void, Void> {
        private final Trees trees;
        private final CompilationUnitTree unit;
        private String method = "";
        private int classes = 0;

        Look(Trees trees, CompilationUnitTree unit) {
            this.trees = trees;
            this.unit = unit;
        }

        private long line(long position) {
            return unit.getLineMap().getLineNumber(position);
        }

        private void forbidden(Tree tree) {
            long at = line(trees.getSourcePositions().getStartPosition(unit, tree));
            Check.isTrue("line " + at + " has " + tree.getKind(), false);
        }

        @Override
        public Void visitCompilationUnit(CompilationUnitTree tree, Void none) {
            Check.isTrue("no package", tree.getPackageName() == null);
            super.visitCompilationUnit(tree, none);
            Check.isTrue(classes + " classes", classes <= 12);
            return null;
        }

        @Override
        public Void visitImport(ImportTree tree, Void none) {
            Check.isTrue(tree.toString(), tree.toString().trim().equals("import java.util.NoSuchElementException;"));
            return null;
        }

        @Override
        public Void visitClass(ClassTree tree, Void none) {
            classes++;
            int fields = 0;
            for (Tree member : tree.getMembers()) {
                if (member instanceof VariableTree) {
                    Set<Modifier> flags = ((VariableTree) member).getModifiers().getFlags();
                    boolean isStatic = flags.contains(Modifier.STATIC);
                    Check.isTrue("a static field is final", !isStatic || flags.contains(Modifier.FINAL));
                    fields += isStatic ? 0 : 1;
                }
                Check.isTrue("no initialiser block", member.getKind() != Tree.Kind.BLOCK);
            }
            Check.isTrue(tree.getSimpleName() + " has " + fields + " fields", fields <= 20);
            return super.visitClass(tree, none);
        }

        @Override
        public Void visitMethod(MethodTree tree, Void none) {
            Element element = trees.getElement(getCurrentPath());
            method = named(element);
            CALLS.computeIfAbsent(method, key -> new LinkedHashSet<>());
            if (tree.getModifiers().getFlags().contains(Modifier.PUBLIC)) {
                PUBLIC_NAMES.add(tree.getName().toString());
            } else if (!tree.getName().contentEquals("<init>")) {
                OTHER_NAMES.add(tree.getName().toString());
            }
            long lines = 1 + line(trees.getSourcePositions().getEndPosition(unit, tree))
                - line(trees.getSourcePositions().getStartPosition(unit, tree));
            Check.isTrue(method + " has " + lines + " lines", lines <= 60);
            Check.isTrue(method + " has few parameters", tree.getParameters().size() <= 7);
            return super.visitMethod(tree, none);
        }

        private static String named(Element element) {
            return element.getEnclosingElement().getSimpleName() + "." + element.getSimpleName();
        }

        private void call(Element element) {
            Element top = element;
            while (top.getEnclosingElement().getKind() != ElementKind.PACKAGE) {
                top = top.getEnclosingElement();
            }
            if (top.getSimpleName().contentEquals("GrottoHours")) {
                CALLS.computeIfAbsent(method, key -> new LinkedHashSet<>()).add(named(element));
            } else {
                boolean isException = EXCEPTIONS.contains(top.getSimpleName().toString());
                Check.isTrue("the library's " + named(element), isException || LIBRARY.contains(named(element)));
            }
        }

        @Override
        public Void visitMethodInvocation(MethodInvocationTree tree, Void none) {
            call(trees.getElement(getCurrentPath()));
            return super.visitMethodInvocation(tree, none);
        }

        @Override
        public Void visitNewClass(NewClassTree tree, Void none) {
            call(trees.getElement(getCurrentPath()));
            return super.visitNewClass(tree, none);
        }

        @Override
        public Void visitThrow(ThrowTree tree, Void none) {
            boolean isNew = tree.getExpression() instanceof NewClassTree;
            String text = tree.toString();
            Check.isTrue(text, isNew && EXCEPTIONS.contains(text.replaceAll("^throw new (\\w+)\\(\"[^\"]*\"\\);$", "$1")));
            Check.isTrue("no throw in a constructor", !method.endsWith(".<init>"));
            return super.visitThrow(tree, none);
        }

        @Override
        public Void visitCatch(CatchTree tree, Void none) {
            forbidden(tree);
            return null;
        }

        @Override
        public Void visitLambdaExpression(LambdaExpressionTree tree, Void none) {
            forbidden(tree);
            return null;
        }

        @Override
        public Void visitMemberReference(MemberReferenceTree tree, Void none) {
            forbidden(tree);
            return null;
        }

        @Override
        public Void visitSynchronized(SynchronizedTree tree, Void none) {
            forbidden(tree);
            return null;
        }

        @Override
        public Void visitAssert(AssertTree tree, Void none) {
            forbidden(tree);
            return null;
        }
    }
}
