import com.sun.source.tree.*;
import com.sun.source.util.JavacTask;
import com.sun.source.util.SourcePositions;
import com.sun.source.util.TreePath;
import com.sun.source.util.TreePathScanner;
import com.sun.source.util.Trees;
import java.io.File;
import java.nio.file.Files;
import java.nio.file.Path;
import java.util.ArrayList;
import java.util.Comparator;
import java.util.EnumSet;
import java.util.HashMap;
import java.util.HashSet;
import java.util.LinkedHashSet;
import java.util.List;
import java.util.Map;
import java.util.Set;
import javax.lang.model.element.Element;
import javax.lang.model.element.ElementKind;
import javax.lang.model.element.ExecutableElement;
import javax.lang.model.element.Modifier;
import javax.lang.model.element.TypeElement;
import javax.lang.model.type.ArrayType;
import javax.lang.model.type.DeclaredType;
import javax.lang.model.type.TypeKind;
import javax.lang.model.type.TypeMirror;
import javax.tools.JavaCompiler;
import javax.tools.ToolProvider;

/** The rules of LANGUAGE.md that can be read off the source's trees and what its names stand for. */
public final class LanguageTest {
    private static final Path SOURCE = Path.of("src/main/java/FirstWords.java");
    private static final int DEEPEST = 8;

    private static final Set<Tree.Kind> FORBIDDEN = EnumSet.of(Tree.Kind.THROW, Tree.Kind.TRY, Tree.Kind.CATCH, Tree.Kind.SYNCHRONIZED,
        Tree.Kind.ASSERT, Tree.Kind.LAMBDA_EXPRESSION, Tree.Kind.MEMBER_REFERENCE, Tree.Kind.ANNOTATION, Tree.Kind.INSTANCE_OF);

    /** What is used of the library, all of it on the list of rule 4. */
    private static final Set<String> LIBRARY = Set.of("System.arraycopy", "Integer.bitCount", "Math.min", "Math.max", "String.length", "String.charAt");

    private static final Set<String> FACE = Set.of("feed", "end", "text", "fault", "thing", "meaning", "word", "kind", "show", "teach", "undo",
        "clear", "shown", "thinks", "fits", "same", "fled", "against", "common", "teaching", "never", "order", "first", "fears", "answer", "heard",
        "left", "ask", "sure", "likely", "theirs", "hush", "meant", "build", "draw", "keep", "back", "sheet", "lay", "read", "torn", "count");

    public static void main(String[] args) throws Exception {
        try (var files = Files.list(SOURCE.getParent())) {
            Check.holds("one file", files.count() == 1);
        }
        for (byte b : Files.readAllBytes(SOURCE)) {
            if (b < 0 || b == 9 || b == 13) {
                Check.holds("signs 32 to 126 and line ends alone", false);
                break;
            }
        }
        JavaCompiler javac = ToolProvider.getSystemJavaCompiler();
        JavacTask task = (JavacTask) javac.getTask(null, null, null, List.of("-proc:none"), null,
            javac.getStandardFileManager(null, null, null).getJavaFileObjects(new File(SOURCE.toString())));
        List<CompilationUnitTree> units = new ArrayList<>();
        for (CompilationUnitTree unit : task.parse()) units.add(unit);
        task.analyze();
        for (CompilationUnitTree unit : units) {
            Check.holds("no package", unit.getPackage() == null);
            Check.holds("no import", unit.getImports().isEmpty());
            Check.holds("one class beside none", unit.getTypeDecls().size() == 1);
            Rules rules = new Rules(unit, Trees.instance(task));
            rules.scan(unit, null);
            rules.callsAreShallow();
        }
        Check.finish();
    }

    private static final class Rules extends TreePathScanner<Void, Void> {
        private final CompilationUnitTree unit;
        private final Trees trees;
        private final SourcePositions positions;
        private final Map<Element, Set<Element>> calls = new HashMap<>();
        private final Map<Element, Integer> depths = new HashMap<>();
        private Element method;
        private int depth = 0;

        Rules(CompilationUnitTree unit, Trees trees) {
            this.unit = unit;
            this.trees = trees;
            positions = trees.getSourcePositions();
        }

        private long line(long position) {
            return unit.getLineMap().getLineNumber(position);
        }

        private void rule(String what, Tree at, boolean holds) {
            if (!holds) Check.holds(what + ", line " + line(positions.getStartPosition(unit, at)), false);
        }

        @Override
        public Void scan(Tree t, Void v) {
            if (t != null) {
                rule("rule 6, 2: " + t.getKind(), t, !FORBIDDEN.contains(t.getKind()));
                if (t.getKind() == Tree.Kind.PLUS || t.getKind() == Tree.Kind.PLUS_ASSIGNMENT) {
                    rule("rule 10: texts joined by +", t, !t.toString().contains("\""));
                }
            }
            return super.scan(t, v);
        }

        @Override
        public Void visitClass(ClassTree c, Void v) {
            int fields = 0;
            for (Tree m : c.getMembers()) {
                if (m instanceof VariableTree f) {
                    Set<Modifier> mods = f.getModifiers().getFlags();
                    boolean isStatic = mods.contains(Modifier.STATIC);
                    if (!isStatic) fields++;
                    rule("rule 5: static and not final", f, !isStatic || mods.contains(Modifier.FINAL));
                }
                rule("rule 5: a block", m, !(m instanceof BlockTree));
            }
            rule("rule 11: " + fields + " fields", c, fields <= 20);
            rule("rule 2: a class inside is static", c, depth == 0 || c.getModifiers().getFlags().contains(Modifier.STATIC));
            rule("rule 2: no class deeper inside", c, depth <= 1);
            depth++;
            super.visitClass(c, v);
            depth--;
            return null;
        }

        @Override
        public Void visitVariable(VariableTree t, Void v) {
            Element e = trees.getElement(getCurrentPath());
            rule("rule 3: the type of " + t.getName(), t, isAllowed(e.asType(), 2));
            if (e.getKind() == ElementKind.FIELD && e.getModifiers().contains(Modifier.STATIC)) {
                rule("rule 5: a constant", t, e.asType().getKind().isPrimitive());
            }
            return super.visitVariable(t, v);
        }

        private static boolean isAllowed(TypeMirror type, int dimensions) {
            if (type instanceof ArrayType a) return dimensions > 0 && isAllowed(a.getComponentType(), dimensions - 1);
            if (type instanceof DeclaredType d) {
                String name = d.asElement().toString();
                return dimensions > 0 && (name.equals("java.lang.String") || name.startsWith("FirstWords"));
            }
            return type.getKind().isPrimitive();
        }

        @Override
        public Void visitBinary(BinaryTree t, Void v) {
            if (t.getKind() == Tree.Kind.EQUAL_TO || t.getKind() == Tree.Kind.NOT_EQUAL_TO) {
                TypeMirror type = typeOf(t.getLeftOperand());
                rule("rule 6: texts compared by ==", t, !type.toString().equals("java.lang.String"));
            }
            return super.visitBinary(t, v);
        }

        @Override
        public Void visitNewClass(NewClassTree n, Void v) {
            rule("rule 2: an anonymous class", n, n.getClassBody() == null);
            rule("rule 12, as this program keeps it: objects are made by constructors alone", n, isInConstructor());
            call(trees.getElement(getCurrentPath()));
            return super.visitNewClass(n, v);
        }

        @Override
        public Void visitNewArray(NewArrayTree n, Void v) {
            rule("rule 12, as this program keeps it: arrays are made by constructors alone", n, isInConstructor());
            return super.visitNewArray(n, v);
        }

        private boolean isInConstructor() {
            return method == null || method.getKind() == ElementKind.CONSTRUCTOR;
        }

        @Override
        public Void visitMethod(MethodTree m, Void v) {
            long lines = line(positions.getEndPosition(unit, m)) - line(positions.getStartPosition(unit, m)) + 1;
            rule("rule 11: " + lines + " lines in " + m.getName(), m, lines <= 60);
            rule("rule 11: parameters of " + m.getName(), m, m.getParameters().size() <= 7);
            rule("rule 6: throws", m, m.getThrows().isEmpty());
            String name = m.getName().toString();
            rule("rule 6: " + name, m, !Set.of("equals", "hashCode", "toString", "finalize").contains(name));
            method = trees.getElement(getCurrentPath());
            boolean isPublic = method.getModifiers().contains(Modifier.PUBLIC);
            rule("rule 1: the name of " + name, m, isPublic || !method.getModifiers().contains(Modifier.PRIVATE) || !FACE.contains(name));
            calls.computeIfAbsent(method, k -> new LinkedHashSet<>());
            super.visitMethod(m, v);
            method = null;
            return null;
        }

        @Override
        public Void visitMethodInvocation(MethodInvocationTree t, Void v) {
            Element called = trees.getElement(new TreePath(getCurrentPath(), t.getMethodSelect()));
            TypeElement of = (TypeElement) called.getEnclosingElement();
            boolean isOwn = of.toString().startsWith("FirstWords");
            boolean isOfObject = of.toString().equals("java.lang.Object") && called.getKind() == ElementKind.CONSTRUCTOR;
            String name = of.getSimpleName() + "." + called.getSimpleName();
            rule("rule 4: " + name, t, isOwn || isOfObject || LIBRARY.contains(name));
            if (isOwn) call(called);
            if (name.equals("System.arraycopy")) {
                for (int i = 0; i < 4; i += 2) rule("rule 4: a copy of " + t.getArguments().get(i), t, isRowOfNumbers(typeOf(t.getArguments().get(i))));
            }
            return super.visitMethodInvocation(t, v);
        }

        private TypeMirror typeOf(Tree t) {
            return trees.getTypeMirror(new TreePath(getCurrentPath(), t));
        }

        private static boolean isRowOfNumbers(TypeMirror type) {
            return type instanceof ArrayType a && a.getComponentType().getKind().isPrimitive() && a.getComponentType().getKind() != TypeKind.BOOLEAN;
        }

        private void call(Element called) {
            if (method == null) return;
            calls.computeIfAbsent(method, k -> new LinkedHashSet<>()).add(called);
            if (called.equals(method)) {
                Set<Modifier> mods = method.getModifiers();
                Check.holds("rule 8: " + method + " calls itself and is private and static", mods.contains(Modifier.PRIVATE) && mods.contains(Modifier.STATIC));
                boolean carriesDepth = ((ExecutableElement) method).getParameters().stream().anyMatch(p -> p.getSimpleName().toString().matches("depth|placed"));
                Check.holds("rule 8: " + method + " carries its depth", carriesDepth);
            }
        }

        void callsAreShallow() {
            List<Element> all = new ArrayList<>(calls.keySet());
            all.sort(Comparator.comparing(Element::toString));
            for (Element m : all) {
                if (!m.getModifiers().contains(Modifier.PUBLIC)) continue;
                int deep = depthOf(m, new HashSet<>());
                Check.holds("rule 11: " + m + " goes " + deep + " deep", deep <= DEEPEST);
            }
        }

        private int depthOf(Element m, Set<Element> open) {
            Integer known = depths.get(m);
            if (known != null) return known;
            Check.holds("rule 8: methods that call one another: " + m, open.add(m));
            int deepest = 0;
            for (Element called : calls.getOrDefault(m, Set.of())) {
                if (!called.equals(m) && !open.contains(called)) deepest = Math.max(deepest, depthOf(called, open));
                else Check.holds("rule 8: methods that call one another: " + m + " and " + called, called.equals(m));
            }
            open.remove(m);
            depths.put(m, deepest + 1);
            return deepest + 1;
        }
    }
}
