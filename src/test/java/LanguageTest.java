import com.sun.source.tree.ArrayAccessTree;
import com.sun.source.tree.AssignmentTree;
import com.sun.source.tree.BinaryTree;
import com.sun.source.tree.ClassTree;
import com.sun.source.tree.CompilationUnitTree;
import com.sun.source.tree.CompoundAssignmentTree;
import com.sun.source.tree.IdentifierTree;
import com.sun.source.tree.MemberSelectTree;
import com.sun.source.tree.MethodInvocationTree;
import com.sun.source.tree.MethodTree;
import com.sun.source.tree.NewClassTree;
import com.sun.source.tree.Tree;
import com.sun.source.tree.VariableTree;
import com.sun.source.util.JavacTask;
import com.sun.source.util.TreePath;
import com.sun.source.util.TreePathScanner;
import com.sun.source.util.Trees;
import java.io.File;
import java.io.IOException;
import java.util.ArrayDeque;
import java.util.Deque;
import java.util.LinkedHashMap;
import java.util.LinkedHashSet;
import java.util.Map;
import java.util.Set;
import java.util.TreeSet;
import javax.lang.model.element.Element;
import javax.lang.model.element.Modifier;
import javax.lang.model.element.TypeElement;
import javax.lang.model.type.ArrayType;
import javax.lang.model.type.TypeMirror;
import javax.tools.JavaCompiler;
import javax.tools.StandardJavaFileManager;
import javax.tools.ToolProvider;

/** The rules of ../shared/LANGUAGE.md that can be seen in the source's tree, each told by its number. */
public final class LanguageTest {
    private static final String SOURCE = "src/main/java/JudgesByLoss.java";
    private static final Set<Tree.Kind> BANNED = Set.of(Tree.Kind.LAMBDA_EXPRESSION, Tree.Kind.MEMBER_REFERENCE,
        Tree.Kind.THROW, Tree.Kind.TRY, Tree.Kind.SYNCHRONIZED, Tree.Kind.ASSERT, Tree.Kind.IMPORT,
        Tree.Kind.PACKAGE, Tree.Kind.RECORD, Tree.Kind.ENUM, Tree.Kind.ANNOTATION, Tree.Kind.SWITCH_EXPRESSION);
    // of what rule 4 lists, what this class uses
    private static final Set<String> LIBRARY = Set.of("java.lang.Integer.bitCount", "java.lang.Math.max",
        "java.lang.Math.min", "java.lang.System.arraycopy", "java.lang.String.length", "java.lang.String.charAt",
        "Array.clone", "java.lang.Object.<init>");
    private static final int MOST_LINES = 60, MOST_PARAMETERS = 7, MOST_DEEP = 8, MOST_CLASSES = 12;
    private static final int MOST_FIELDS = 20;

    private final Set<String> wrong = new TreeSet<>();
    private final Map<Element, Set<Element>> calls = new LinkedHashMap<>();
    private Trees trees;
    private CompilationUnitTree unit;
    private int classes;

    public static void main(String[] args) throws IOException {
        LanguageTest test = new LanguageTest();
        test.readSource(args.length > 0 ? args[0] : SOURCE);
        test.checkCalls();
        test.wrong.forEach(System.out::println);
        int things = test.wrong.size();
        System.out.println(things == 0 ? "the language is as due" : things + " things are not as LANGUAGE.md wants");
        System.exit(things == 0 ? 0 : 1);
    }

    private void readSource(String source) throws IOException {
        JavaCompiler compiler = ToolProvider.getSystemJavaCompiler();
        try (StandardJavaFileManager files = compiler.getStandardFileManager(null, null, null)) {
            JavacTask task = (JavacTask) compiler.getTask(null, files, null, null, null,
                files.getJavaFileObjects(new File(source)));
            trees = Trees.instance(task);
            for (CompilationUnitTree read : task.parse()) {
                unit = read;
            }
            task.analyze();
            if (unit.getImports().size() > 0 || unit.getPackageName() != null) {
                wrong.add("4: an import or a package line");
            }
            if (unit.getTypeDecls().size() != 1) {
                wrong.add("1: " + unit.getTypeDecls().size() + " classes beside one another");
            }
            new Reading().scan(unit, null);
        }
        if (classes > MOST_CLASSES) {
            wrong.add("11: " + classes + " classes");
        }
    }

    private long lineOf(long place) {
        return unit.getLineMap().getLineNumber(place);
    }

    private void tell(int rule, Tree tree, String what) {
        wrong.add(rule + ": line " + lineOf(trees.getSourcePositions().getStartPosition(unit, tree)) + ", " + what);
    }

    /** How deep calls go, those that call one another taken for one; and that just static ones do so. */
    private void checkCalls() {
        for (Element method : calls.keySet()) {
            if (reached(method).contains(method) && !method.getModifiers().contains(Modifier.STATIC)) {
                wrong.add("8: " + method + " calls itself and is not static");
            }
            int deep = depthFrom(method, new ArrayDeque<>());
            if (method.getModifiers().contains(Modifier.PUBLIC) && deep > MOST_DEEP) {
                wrong.add("11: calls go " + deep + " deep from " + method);
            }
        }
    }

    private Set<Element> reached(Element method) {
        Set<Element> all = new LinkedHashSet<>();
        Deque<Element> open = new ArrayDeque<>(calls.getOrDefault(method, Set.of()));
        while (!open.isEmpty()) {
            Element next = open.pop();
            if (all.add(next)) {
                open.addAll(calls.getOrDefault(next, Set.of()));
            }
        }
        return all;
    }

    private int depthFrom(Element method, Deque<Element> chain) {
        if (chain.contains(method)) {
            return 0;
        }
        chain.push(method);
        int deepest = 0;
        for (Element called : calls.getOrDefault(method, Set.of())) {
            boolean recursive = reached(called).contains(method);
            deepest = Math.max(deepest, depthFrom(called, chain) - (recursive ? 1 : 0));
        }
        chain.pop();
        return deepest + 1;
    }

    private final class Reading extends TreePathScanner<Void, Void> {
        private Element method;

        @Override
        public Void scan(Tree tree, Void nothing) {
            if (tree != null && BANNED.contains(tree.getKind())) {
                tell(6, tree, "there stands " + tree.getKind());
            }
            return super.scan(tree, nothing);
        }

        @Override
        public Void visitClass(ClassTree tree, Void nothing) {
            classes++;
            Element element = trees.getElement(getCurrentPath());
            Tree around = getCurrentPath().getParentPath().getLeaf();
            if (around != unit) {
                boolean inside = around instanceof ClassTree && element.getModifiers().contains(Modifier.STATIC);
                if (!inside || element.getModifiers().contains(Modifier.PUBLIC)) {
                    tell(2, tree, "class " + tree.getSimpleName() + " is local, or not static, or public");
                }
            }
            int fields = 0;
            for (Tree member : tree.getMembers()) {
                if (member.getKind() == Tree.Kind.BLOCK) {
                    tell(5, member, "an initialiser block");
                }
                if (member instanceof VariableTree) {
                    VariableTree field = (VariableTree) member;
                    fields += field.getModifiers().getFlags().contains(Modifier.STATIC) ? 0 : 1;
                    checkStatic(field);
                }
            }
            if (fields > MOST_FIELDS) {
                tell(11, tree, fields + " fields");
            }
            return super.visitClass(tree, nothing);
        }

        private void checkStatic(VariableTree field) {
            Set<Modifier> flags = field.getModifiers().getFlags();
            if (!flags.contains(Modifier.STATIC)) {
                return;
            }
            String type = field.getType().toString();
            if (!flags.contains(Modifier.FINAL) || !type.matches("(int|long|char|byte)(\\[\\])?|boolean|String")) {
                tell(5, field, "static " + field.getName());
            }
            if (field.getInitializer() == null) {
                tell(5, field, "static " + field.getName() + " is not written out");
            }
        }

        @Override
        public Void visitMethod(MethodTree tree, Void nothing) {
            Element outer = method;
            method = trees.getElement(getCurrentPath());
            calls.computeIfAbsent(method, key -> new LinkedHashSet<>());
            if (tree.getParameters().size() > MOST_PARAMETERS) {
                tell(11, tree, tree.getName() + " takes " + tree.getParameters().size());
            }
            boolean locked = tree.getModifiers().getFlags().contains(Modifier.SYNCHRONIZED);
            if (locked || tree.getThrows().size() > 0) {
                tell(6, tree, tree.getName() + " throws, or is synchronized");
            }
            long first = lineOf(trees.getSourcePositions().getStartPosition(unit, tree));
            long lines = lineOf(trees.getSourcePositions().getEndPosition(unit, tree)) - first + 1;
            if (lines > MOST_LINES) {
                tell(11, tree, tree.getName() + " has " + lines + " lines");
            }
            super.visitMethod(tree, nothing);
            method = outer;
            return null;
        }

        @Override
        public Void visitMethodInvocation(MethodInvocationTree tree, Void nothing) {
            noteCall(tree, trees.getElement(new TreePath(getCurrentPath(), tree.getMethodSelect())));
            return super.visitMethodInvocation(tree, nothing);
        }

        @Override
        public Void visitNewClass(NewClassTree tree, Void nothing) {
            noteCall(tree, trees.getElement(getCurrentPath()));
            if (tree.getClassBody() != null) {
                tell(2, tree, "an anonymous class");
            }
            return super.visitNewClass(tree, nothing);
        }

        private void noteCall(Tree tree, Element called) {
            Element owner = called.getEnclosingElement();
            String place = owner instanceof TypeElement ? ((TypeElement) owner).getQualifiedName().toString() : "";
            if (place.startsWith("JudgesByLoss")) {
                if (method != null) {
                    calls.get(method).add(called);
                }
                return;
            }
            String name = place + "." + called.getSimpleName();
            if (!LIBRARY.contains(name)) {
                tell(4, tree, name + " is called");
            }
        }

        @Override
        public Void visitBinary(BinaryTree tree, Void nothing) {
            String type = String.valueOf(trees.getTypeMirror(getCurrentPath()));
            if (type.endsWith("String")) {
                tell(10, tree, "texts joined by +");
            }
            return super.visitBinary(tree, nothing);
        }

        @Override
        public Void visitVariable(VariableTree tree, Void nothing) {
            TypeMirror type = trees.getTypeMirror(getCurrentPath());
            if (type instanceof ArrayType) {
                type = ((ArrayType) type).getComponentType();
            }
            String name = type.toString();
            boolean known = name.equals("java.lang.String") || name.startsWith("JudgesByLoss");
            if (!known && !type.getKind().isPrimitive()) {
                tell(3, tree, tree.getName() + " is a " + name);
            }
            return super.visitVariable(tree, nothing);
        }

        @Override
        public Void visitAssignment(AssignmentTree tree, Void nothing) {
            checkTarget(tree.getVariable());
            return super.visitAssignment(tree, nothing);
        }

        @Override
        public Void visitCompoundAssignment(CompoundAssignmentTree tree, Void nothing) {
            checkTarget(tree.getVariable());
            return super.visitCompoundAssignment(tree, nothing);
        }

        /** Rows that are static are never changed. */
        private void checkTarget(Tree target) {
            if (target instanceof ArrayAccessTree) {
                Tree row = ((ArrayAccessTree) target).getExpression();
                boolean named = row instanceof IdentifierTree || row instanceof MemberSelectTree;
                Element element = named ? trees.getElement(trees.getPath(unit, row)) : null;
                if (element != null && element.getModifiers().contains(Modifier.STATIC)) {
                    tell(5, target, row + " is changed");
                }
            }
        }
    }
}
