import com.sun.source.tree.ArrayAccessTree;
import com.sun.source.tree.AssertTree;
import com.sun.source.tree.BinaryTree;
import com.sun.source.tree.ClassTree;
import com.sun.source.tree.CompilationUnitTree;
import com.sun.source.tree.LambdaExpressionTree;
import com.sun.source.tree.MemberReferenceTree;
import com.sun.source.tree.MethodInvocationTree;
import com.sun.source.tree.MethodTree;
import com.sun.source.tree.NewArrayTree;
import com.sun.source.tree.NewClassTree;
import com.sun.source.tree.SynchronizedTree;
import com.sun.source.tree.ThrowTree;
import com.sun.source.tree.Tree;
import com.sun.source.tree.TryTree;
import com.sun.source.tree.VariableTree;
import com.sun.source.util.JavacTask;
import com.sun.source.util.TreePath;
import com.sun.source.util.TreePathScanner;
import com.sun.source.util.Trees;
import java.io.File;
import java.util.ArrayList;
import java.util.HashSet;
import java.util.List;
import java.util.Map;
import java.util.Set;
import java.util.TreeMap;
import java.util.TreeSet;
import javax.lang.model.element.Element;
import javax.lang.model.element.Modifier;
import javax.lang.model.element.TypeElement;
import javax.tools.JavaCompiler;
import javax.tools.StandardJavaFileManager;
import javax.tools.ToolProvider;

/** The rules of LANGUAGE.md that can be counted, over the source whose path is the property "source". */
public final class LanguageTest extends TreePathScanner<Void, Void> {
    private static final Set<String> FACE = Set.of("<init>()", "feed(int,int,int,int,int)", "end(int)", "hall()",
        "fault(int)", "has(int)", "letter(int,int,int)", "lock(int,int)", "note(int,int)", "door(int)", "player(int)",
        "kept(int,int)", "judge()", "judged(int)", "shortest(int,int)", "back(int)", "states()", "forbid(int)", "share()",
        "slip(int)", "slipped(int)", "hear()", "starts(int)", "hangs(int)", "play(int)", "piece()", "oil(int)",
        "evening(int)", "undo()", "seed(int)", "ask()", "image()", "octet(int)", "on()", "status(int)", "NONE", "NOTHING");
    private static final Set<String> LIBRARY = Set.of("java.lang.String.length", "java.lang.String.charAt",
        "java.lang.Integer.bitCount", "java.lang.Math.min", "java.lang.Math.max", "java.lang.Math.floorDiv",
        "java.lang.System.arraycopy", "java.util.Arrays.fill");
    /** The only methods that use an index, each behind its test. */
    private static final Set<String> INDEXING = Set.of("cell", "setCell", "byteAt", "pastRow");

    private final Trees trees;
    private final CompilationUnitTree unit;
    private final Map<String, Set<String>> calls = new TreeMap<>();
    private final Set<String> face = new TreeSet<>();
    private final Set<String> otherMethods = new TreeSet<>();
    private final Set<String> privateMethods = new TreeSet<>();
    private final List<String> broken = new ArrayList<>();
    private int classes = 0;

    private LanguageTest(Trees trees, CompilationUnitTree unit) {
        this.trees = trees;
        this.unit = unit;
    }

    public static void main(String[] args) throws Exception {
        JavaCompiler compiler = ToolProvider.getSystemJavaCompiler();
        try (StandardJavaFileManager files = compiler.getStandardFileManager(null, null, null)) {
            JavacTask task = (JavacTask) compiler.getTask(null, files, null, List.of("-proc:none"), null,
                files.getJavaFileObjects(new File(System.getProperty("source", "src/main/java/LockOrchestra.java"))));
            CompilationUnitTree unit = task.parse().iterator().next();
            task.analyze();
            LanguageTest test = new LanguageTest(Trees.instance(task), unit);
            test.scan(new TreePath(unit), null);
            test.conclude();
        }
        Check.end("LanguageTest");
    }

    private void conclude() {
        Check.due("the face as promised", true, face.equals(new TreeSet<>(FACE)));
        Set<String> names = new HashSet<>();
        FACE.forEach(f -> names.add(f.replaceAll("\\(.*", "")));
        for (String method : otherMethods) {
            Check.due("rule 1: " + method + " bears no public name", false, names.contains(method));
        }
        Check.due("rule 11: twelve classes at most, " + classes, true, classes <= 12);
        Map<String, Integer> component = components();
        for (String from : calls.keySet()) {
            int deep = deep(from, component, new TreeMap<>());
            Check.due("rule 11: calls go " + deep + " deep: " + (deep > 8 ? way(from, component) : from), true, deep <= 8);
        }
        recursionIsPrivate(component);
        for (String what : broken) {
            Check.due(what, 0, 1);
        }
    }

    private void recursionIsPrivate(Map<String, Integer> component) {
        int many = 0;
        for (String from : calls.keySet()) {
            boolean recurs = false;
            for (String to : calls.get(from)) {
                recurs |= component.get(to).equals(component.get(from));
            }
            if (recurs) {
                many++;
                Check.due("rule 8: private is " + from, true, privateMethods.contains(from));
            }
        }
        Check.due("rule 8: recursion is seen", true, many > 0);
    }

    /** Methods that call one another get the same number: recursion is not counted as depth. */
    private Map<String, Integer> components() {
        Map<String, Set<String>> reach = new TreeMap<>();
        for (String from : calls.keySet()) {
            Set<String> seen = new TreeSet<>();
            List<String> todo = new ArrayList<>(calls.get(from));
            while (!todo.isEmpty()) {
                String next = todo.remove(todo.size() - 1);
                if (seen.add(next)) {
                    todo.addAll(calls.getOrDefault(next, Set.of()));
                }
            }
            reach.put(from, seen);
        }
        Map<String, Integer> number = new TreeMap<>();
        for (String one : calls.keySet()) {
            for (String other : calls.keySet()) {
                boolean together = reach.get(one).contains(other) && reach.get(other).contains(one);
                if (together && number.containsKey(other)) {
                    number.put(one, number.get(other));
                }
            }
            number.putIfAbsent(one, number.size());
        }
        return number;
    }

    private int deep(String from, Map<String, Integer> component, Map<Integer, Integer> known) {
        Integer mine = component.get(from);
        if (known.containsKey(mine)) {
            return known.get(mine);
        }
        int deepest = 0;
        for (String member : calls.keySet()) {
            for (String to : component.get(member).equals(mine) ? calls.get(member) : Set.<String>of()) {
                if (!component.get(to).equals(mine)) {
                    deepest = Math.max(deepest, deep(to, component, known));
                }
            }
        }
        known.put(mine, deepest + 1);
        return deepest + 1;
    }

    /** One of the deepest ways down, so that a fault can be found. */
    private String way(String from, Map<String, Integer> component) {
        Integer mine = component.get(from);
        String deepest = null;
        for (String member : calls.keySet()) {
            for (String to : component.get(member).equals(mine) ? calls.get(member) : Set.<String>of()) {
                boolean deeper = deepest == null
                    || deep(to, component, new TreeMap<>()) > deep(deepest, component, new TreeMap<>());
                deepest = !component.get(to).equals(mine) && deeper ? to : deepest;
            }
        }
        return deepest == null ? from : from + " > " + way(deepest, component);
    }

    private void breaks(int rule, Tree where) {
        long at = trees.getSourcePositions().getStartPosition(unit, where);
        broken.add("rule " + rule + ", line " + unit.getLineMap().getLineNumber(at));
    }

    private Element elementOf(Tree tree) {
        return trees.getElement(trees.getPath(unit, tree));
    }

    private MethodTree methodHere() {
        for (TreePath p = getCurrentPath(); p != null; p = p.getParentPath()) {
            if (p.getLeaf() instanceof MethodTree m) {
                return m;
            }
        }
        return null;
    }

    private static String keyOf(Element method) {
        return method.getEnclosingElement().getSimpleName() + "." + method;
    }

    @Override
    public Void visitClass(ClassTree node, Void v) {
        classes++;
        Set<Modifier> flags = node.getModifiers().getFlags();
        boolean outer = getCurrentPath().getParentPath().getLeaf() instanceof CompilationUnitTree;
        if (outer ? !flags.contains(Modifier.FINAL) : !flags.contains(Modifier.STATIC) || flags.contains(Modifier.PUBLIC)) {
            breaks(1, node);
        }
        int fields = 0;
        for (Tree member : node.getMembers()) {
            Element e = elementOf(member);
            if (member instanceof VariableTree f && !e.getModifiers().contains(Modifier.STATIC)) {
                fields++;
                if (outer && !e.getModifiers().contains(Modifier.PRIVATE)) {
                    breaks(1, f);
                }
            } else if (member instanceof VariableTree f) {
                boolean known = e.asType().getKind().isPrimitive() || Set.of("java.lang.String", "int[]").contains(e.asType().toString());
                if (!e.getModifiers().contains(Modifier.FINAL) || !known) {
                    breaks(5, f);
                }
            }
            if (outer && !(member instanceof ClassTree) && !e.getModifiers().contains(Modifier.PRIVATE)) {
                face.add(e.toString().replace("LockOrchestra(", "<init>("));
                if (!e.getModifiers().contains(Modifier.PUBLIC)) {
                    breaks(1, member);
                }
            } else if (member instanceof MethodTree m && !m.getName().contentEquals("<init>")) {
                otherMethods.add(m.getName().toString());
            }
        }
        if (fields > 20) {
            breaks(11, node);
        }
        return super.visitClass(node, v);
    }

    @Override
    public Void visitMethod(MethodTree node, Void v) {
        calls.computeIfAbsent(keyOf(elementOf(node)), k -> new TreeSet<>());
        if (elementOf(node).getModifiers().contains(Modifier.PRIVATE)) {
            privateMethods.add(keyOf(elementOf(node)));
        }
        long from = unit.getLineMap().getLineNumber(trees.getSourcePositions().getStartPosition(unit, node));
        long to = unit.getLineMap().getLineNumber(trees.getSourcePositions().getEndPosition(unit, node));
        if (node.getParameters().size() > 7 || to - from >= 60) {
            breaks(11, node);
        }
        return super.visitMethod(node, v);
    }

    @Override
    public Void visitMethodInvocation(MethodInvocationTree node, Void v) {
        Element to = elementOf(node.getMethodSelect());
        String owner = ((TypeElement) to.getEnclosingElement()).getQualifiedName().toString();
        MethodTree here = methodHere();
        if (!owner.startsWith("LockOrchestra")) {
            if (!LIBRARY.contains(owner + "." + to.getSimpleName()) && !to.getSimpleName().contentEquals("<init>")) {
                breaks(4, node);
            }
        } else if (here != null) {
            calls.computeIfAbsent(keyOf(elementOf(here)), k -> new TreeSet<>()).add(keyOf(to));
            calls.computeIfAbsent(keyOf(to), k -> new TreeSet<>());
        }
        return super.visitMethodInvocation(node, v);
    }

    @Override
    public Void visitArrayAccess(ArrayAccessTree node, Void v) {
        MethodTree here = methodHere();
        if (here == null || !INDEXING.contains(here.getName().toString())) {
            breaks(7, node);
        }
        return super.visitArrayAccess(node, v);
    }

    @Override
    public Void visitNewArray(NewArrayTree node, Void v) {
        if (methodHere() != null) {
            breaks(12, node);
        }
        return super.visitNewArray(node, v);
    }

    @Override
    public Void visitNewClass(NewClassTree node, Void v) {
        MethodTree here = methodHere();
        if (node.getClassBody() != null) {
            breaks(2, node);
        }
        if (here != null && !here.getName().contentEquals("<init>")) {
            breaks(12, node);
        }
        return super.visitNewClass(node, v);
    }

    @Override
    public Void visitBinary(BinaryTree node, Void v) {
        if (node.getKind() == Tree.Kind.PLUS && trees.getTypeMirror(getCurrentPath()).toString().contains("String")) {
            breaks(10, node);
        }
        return super.visitBinary(node, v);
    }

    @Override
    public Void visitThrow(ThrowTree node, Void v) {
        breaks(6, node);
        return null;
    }

    @Override
    public Void visitTry(TryTree node, Void v) {
        breaks(6, node);
        return null;
    }

    @Override
    public Void visitSynchronized(SynchronizedTree node, Void v) {
        breaks(6, node);
        return null;
    }

    @Override
    public Void visitAssert(AssertTree node, Void v) {
        breaks(6, node);
        return null;
    }

    @Override
    public Void visitLambdaExpression(LambdaExpressionTree node, Void v) {
        breaks(2, node);
        return null;
    }

    @Override
    public Void visitMemberReference(MemberReferenceTree node, Void v) {
        breaks(2, node);
        return null;
    }
}
