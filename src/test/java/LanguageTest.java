import com.sun.source.tree.AssertTree;
import com.sun.source.tree.BlockTree;
import com.sun.source.tree.ClassTree;
import com.sun.source.tree.CompilationUnitTree;
import com.sun.source.tree.ImportTree;
import com.sun.source.tree.LambdaExpressionTree;
import com.sun.source.tree.MemberReferenceTree;
import com.sun.source.tree.MethodInvocationTree;
import com.sun.source.tree.MethodTree;
import com.sun.source.tree.NewClassTree;
import com.sun.source.tree.SynchronizedTree;
import com.sun.source.tree.ThrowTree;
import com.sun.source.tree.Tree;
import com.sun.source.tree.TryTree;
import com.sun.source.tree.TypeCastTree;
import com.sun.source.tree.VariableTree;
import com.sun.source.util.JavacTask;
import com.sun.source.util.SourcePositions;
import com.sun.source.util.TreePath;
import com.sun.source.util.TreePathScanner;
import com.sun.source.util.Trees;
import java.lang.reflect.Field;
import java.lang.reflect.Method;
import java.lang.reflect.Modifier;
import java.nio.file.Files;
import java.nio.file.Path;
import java.util.ArrayList;
import java.util.HashSet;
import java.util.LinkedHashMap;
import java.util.List;
import java.util.Map;
import java.util.Set;
import java.util.TreeSet;
import javax.lang.model.element.Element;
import javax.lang.model.type.ArrayType;
import javax.lang.model.type.TypeMirror;
import javax.tools.JavaCompiler;
import javax.tools.StandardJavaFileManager;
import javax.tools.ToolProvider;

/** The face of the class as DOC.md tells it, and the rules of LANGUAGE.md that a program can look at. */
public final class LanguageTest {
    private static final Path SOURCE = Path.of("src/main/java/SliceSeller.java");
    private static final Path DOCUMENT = Path.of("../shared/DOC.md");
    private static final Set<String> LIBRARY = Set.of("java.lang.Math.min", "java.lang.Math.max",
            "java.lang.Integer.bitCount", "java.lang.System.arraycopy");
    private static final int MOST_PARAMETERS = 7;
    private static final int MOST_LINES = 60;
    private static final int MOST_CLASSES = 12;
    private static final int MOST_FIELDS = 20;
    private static final int MOST_DEPTH = 8;

    private static final Due DUE = new Due("LanguageTest");

    public static void main(String[] args) throws Exception {
        checkFace();
        checkSource();
        DUE.end();
    }

    /** "int node(int)" and the like, from the document's face. */
    private static Set<String> faceOfDocument() throws Exception {
        Set<String> face = new TreeSet<>();
        boolean inside = false;
        for (String line : Files.readAllLines(DOCUMENT)) {
            if (line.startsWith("```")) {
                inside = line.equals("```java");
            } else if (inside && line.startsWith("    public ") && line.contains(" int ")) {
                String call = line.trim().substring("public ".length()).replace(";", "");
                face.add(call.replaceAll("(int|boolean) \\w+(?=[,)])", "$1").replace(", ", ","));
            }
        }
        return face;
    }

    private static void checkFace() throws Exception {
        Set<String> face = new TreeSet<>();
        for (Method m : SliceSeller.class.getDeclaredMethods()) {
            if (!Modifier.isPrivate(m.getModifiers())) {
                String full = m.toString().replace("SliceSeller.", "");
                face.add(full.replaceFirst("^public ", ""));
            }
        }
        DUE.is("how many calls the face has", face.size(), 35);
        DUE.holds("the face is the document's: " + face, face.equals(faceOfDocument()));
        for (Field f : SliceSeller.class.getDeclaredFields()) {
            DUE.holds("field " + f.getName() + " is private", Modifier.isPrivate(f.getModifiers()));
        }
        DUE.holds("public and final", Modifier.isPublic(SliceSeller.class.getModifiers())
                && Modifier.isFinal(SliceSeller.class.getModifiers()));
        DUE.is("constructors", SliceSeller.class.getDeclaredConstructors().length, 1);
        DUE.holds("it is public", Modifier.isPublic(SliceSeller.class.getConstructor().getModifiers()));
        for (Class<?> c : SliceSeller.class.getDeclaredClasses()) {
            DUE.holds(c + " is static", Modifier.isStatic(c.getModifiers()));
            DUE.holds(c + " is not in the face", !Modifier.isPublic(c.getModifiers())
                    && !Modifier.isProtected(c.getModifiers()));
        }
    }

    private static void checkSource() throws Exception {
        JavaCompiler compiler = ToolProvider.getSystemJavaCompiler();
        try (StandardJavaFileManager files = compiler.getStandardFileManager(null, null, null)) {
            JavacTask task = (JavacTask) compiler.getTask(null, files, null, List.of("-proc:none"), null,
                    files.getJavaFileObjects(SOURCE));
            CompilationUnitTree unit = task.parse().iterator().next();
            task.analyze();
            Reader reader = new Reader(unit, Trees.instance(task));
            reader.scan(unit, null);
            DUE.holds("at most " + MOST_CLASSES + " classes: " + reader.classes, reader.classes <= MOST_CLASSES);
            reader.checkDepth();
        }
        for (char c : Files.readString(SOURCE).toCharArray()) {
            if (c >= 128 || c < 32 && c != '\n') {
                DUE.holds("sign " + (int) c + " in the source", false);
            }
        }
    }

    private static final class Reader extends TreePathScanner<Void, Void> {
        private final CompilationUnitTree unit;
        private final Trees trees;
        private final SourcePositions positions;
        private final Map<Element, Set<Element>> calls = new LinkedHashMap<>();
        private final Set<String> publicNames = new HashSet<>();
        private Element method;
        private int classes;

        Reader(CompilationUnitTree unit, Trees trees) {
            this.unit = unit;
            this.trees = trees;
            this.positions = trees.getSourcePositions();
            for (Method m : SliceSeller.class.getDeclaredMethods()) {
                if (Modifier.isPublic(m.getModifiers())) {
                    publicNames.add(m.getName());
                }
            }
        }

        private void refuse(String rule, Tree tree) {
            long line = unit.getLineMap().getLineNumber(positions.getStartPosition(unit, tree));
            DUE.holds("rule " + rule + ", line " + line, false);
        }

        @Override public Void visitClass(ClassTree tree, Void none) {
            classes++;
            boolean outer = getCurrentPath().getParentPath().getLeaf() instanceof CompilationUnitTree;
            boolean nested = getCurrentPath().getParentPath().getLeaf() instanceof ClassTree;
            boolean isStatic = tree.getModifiers().getFlags().contains(javax.lang.model.element.Modifier.STATIC);
            if (!outer && !(nested && isStatic)) {
                refuse("2", tree);
            }
            int fields = 0;
            for (Tree member : tree.getMembers()) {
                if (member instanceof VariableTree v) {
                    Set<javax.lang.model.element.Modifier> flags = v.getModifiers().getFlags();
                    boolean fixed = flags.contains(javax.lang.model.element.Modifier.STATIC);
                    if (fixed && !flags.contains(javax.lang.model.element.Modifier.FINAL)) {
                        refuse("5", v);
                    }
                    fields += fixed ? 0 : 1;
                }
                if (member instanceof BlockTree) {
                    refuse("5", member);
                }
            }
            DUE.holds("rule 11: fields of " + tree.getSimpleName() + ": " + fields, fields <= MOST_FIELDS);
            return super.visitClass(tree, none);
        }

        @Override public Void visitMethod(MethodTree tree, Void none) {
            Element before = method;
            method = trees.getElement(getCurrentPath());
            calls.computeIfAbsent(method, m -> new HashSet<>());
            String name = tree.getName().toString();
            DUE.holds("rule 11: parameters of " + name, tree.getParameters().size() <= MOST_PARAMETERS);
            long first = unit.getLineMap().getLineNumber(positions.getStartPosition(unit, tree));
            long last = unit.getLineMap().getLineNumber(Math.max(0, positions.getEndPosition(unit, tree)));
            DUE.holds("rule 11: lines of " + name, last - first < MOST_LINES);
            if (publicNames.contains(name)
                    && !tree.getModifiers().getFlags().contains(javax.lang.model.element.Modifier.PUBLIC)) {
                refuse("1", tree);
            }
            super.visitMethod(tree, none);
            method = before;
            return null;
        }

        @Override public Void visitMethodInvocation(MethodInvocationTree tree, Void none) {
            Element called = trees.getElement(new TreePath(getCurrentPath(), tree.getMethodSelect()));
            String owner = called.getEnclosingElement().toString();
            String name = owner + "." + called.getSimpleName();
            boolean own = isOwn(owner);
            boolean madeByCompiler = called.getSimpleName().contentEquals("<init>");
            DUE.holds("rule 4: " + name, own || madeByCompiler || LIBRARY.contains(name));
            if (method != null && !madeByCompiler) {
                calls.get(method).add(called);
            }
            return super.visitMethodInvocation(tree, none);
        }

        /** Of rule 3 this class needs numbers, its own classes, and rows of these alone. */
        @Override public Void visitVariable(VariableTree tree, Void none) {
            TypeMirror type = trees.getTypeMirror(new TreePath(getCurrentPath(), tree.getType()));
            TypeMirror inside = type instanceof ArrayType row ? row.getComponentType() : type;
            DUE.holds("rule 3: type of " + tree.getName() + ": " + type, isNumber(inside) || isOwn(inside.toString()));
            boolean fixed = tree.getModifiers().getFlags().contains(javax.lang.model.element.Modifier.STATIC);
            DUE.holds("rule 5: type of " + tree.getName() + ": " + type, !fixed || isNumber(inside));
            return super.visitVariable(tree, none);
        }

        private static boolean isNumber(TypeMirror type) {
            return Set.of("int", "long", "boolean").contains(type.toString());
        }

        private static boolean isOwn(String type) {
            return type.equals("SliceSeller") || type.startsWith("SliceSeller.");
        }

        @Override public Void visitNewClass(NewClassTree tree, Void none) {
            String type = String.valueOf(trees.getTypeMirror(getCurrentPath()));
            DUE.holds("rule 4: new " + type, isOwn(type) && tree.getClassBody() == null);
            return super.visitNewClass(tree, none);
        }

        @Override public Void visitTypeCast(TypeCastTree tree, Void none) {
            DUE.holds("rule 6: cast to " + tree.getType(), Set.of("byte", "short").contains(tree.getType().toString()));
            return super.visitTypeCast(tree, none);
        }

        @Override public Void visitImport(ImportTree tree, Void none) {
            refuse("4", tree);
            return super.visitImport(tree, none);
        }

        @Override public Void visitThrow(ThrowTree tree, Void none) {
            refuse("6", tree);
            return super.visitThrow(tree, none);
        }

        @Override public Void visitTry(TryTree tree, Void none) {
            refuse("6", tree);
            return super.visitTry(tree, none);
        }

        @Override public Void visitSynchronized(SynchronizedTree tree, Void none) {
            refuse("6", tree);
            return super.visitSynchronized(tree, none);
        }

        @Override public Void visitAssert(AssertTree tree, Void none) {
            refuse("6", tree);
            return super.visitAssert(tree, none);
        }

        @Override public Void visitLambdaExpression(LambdaExpressionTree tree, Void none) {
            refuse("2", tree);
            return super.visitLambdaExpression(tree, none);
        }

        @Override public Void visitMemberReference(MemberReferenceTree tree, Void none) {
            refuse("2", tree);
            return super.visitMemberReference(tree, none);
        }

        void checkDepth() {
            for (Element m : calls.keySet()) {
                List<String> chain = deepest(m, new ArrayList<>());
                DUE.holds("rule 11: calls go deep: " + chain, chain.size() <= MOST_DEPTH);
            }
        }

        /** The longest chain of calls from a method on, one that calls itself counted once. */
        private List<String> deepest(Element m, List<Element> open) {
            List<String> longest = new ArrayList<>();
            open.add(m);
            for (Element next : calls.getOrDefault(m, Set.of())) {
                if (!open.contains(next)) {
                    List<String> chain = deepest(next, open);
                    longest = chain.size() > longest.size() ? chain : longest;
                } else {
                    DUE.holds("rule 8: only extend calls itself, not " + next,
                            next.equals(m) && next.getSimpleName().contentEquals("extend"));
                    DUE.holds("rule 8: what calls itself is private and static: " + next,
                            next.getModifiers().containsAll(Set.of(javax.lang.model.element.Modifier.PRIVATE,
                                    javax.lang.model.element.Modifier.STATIC)));
                }
            }
            open.remove(open.size() - 1);
            longest.add(0, m.getSimpleName().toString());
            return longest;
        }
    }
}
