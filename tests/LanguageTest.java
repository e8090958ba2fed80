import com.sun.source.tree.*;
import com.sun.source.util.JavacTask;
import com.sun.source.util.SourcePositions;
import com.sun.source.util.TreeScanner;
import com.sun.source.util.Trees;
import java.io.File;
import java.nio.file.Files;
import java.nio.file.Path;
import java.util.EnumSet;
import java.util.List;
import java.util.Set;
import javax.lang.model.element.Modifier;
import javax.tools.JavaCompiler;
import javax.tools.ToolProvider;

/** The rules of LANGUAGE.md that can be read off the source's trees. */
public final class LanguageTest {
    private static final Path SOURCE = Path.of("src/main/java/FirstWords.java");

    private static final Set<Tree.Kind> FORBIDDEN = EnumSet.of(Tree.Kind.THROW, Tree.Kind.TRY, Tree.Kind.CATCH, Tree.Kind.SYNCHRONIZED,
        Tree.Kind.ASSERT, Tree.Kind.LAMBDA_EXPRESSION, Tree.Kind.MEMBER_REFERENCE, Tree.Kind.ANNOTATION);

    private static final Set<String> LIBRARY = Set.of("System.arraycopy", "Integer.bitCount", "Math.min", "Math.max");

    public static void main(String[] args) throws Exception {
        Check.holds("one file", Files.list(SOURCE.getParent()).count() == 1);
        byte[] bytes = Files.readAllBytes(SOURCE);
        for (byte b : bytes) {
            if (b < 0 || b == 9 || b == 13) {
                Check.holds("signs 32 to 126 and line ends alone", false);
                break;
            }
        }
        JavaCompiler javac = ToolProvider.getSystemJavaCompiler();
        JavacTask task = (JavacTask) javac.getTask(null, null, null, List.of("-proc:none"), null,
            javac.getStandardFileManager(null, null, null).getJavaFileObjects(new File(SOURCE.toString())));
        for (CompilationUnitTree unit : task.parse()) {
            Check.holds("no package", unit.getPackage() == null);
            Check.holds("no import", unit.getImports().isEmpty());
            Check.holds("one class beside none", unit.getTypeDecls().size() == 1);
            new Rules(unit, Trees.instance(task).getSourcePositions()).scan(unit, null);
        }
        Check.finish();
    }

    private static final class Rules extends TreeScanner<Void, Void> {
        private final CompilationUnitTree unit;
        private final SourcePositions positions;
        private int depth = 0;

        Rules(CompilationUnitTree unit, SourcePositions positions) {
            this.unit = unit;
            this.positions = positions;
        }

        private long line(long position) {
            return unit.getLineMap().getLineNumber(position);
        }

        private void rule(String what, Tree at, boolean holds) {
            if (!holds) Check.holds(what + ", line " + line(positions.getStartPosition(unit, at)), false);
        }

        @Override
        public Void scan(Tree t, Void v) {
            if (t != null) {
                rule("rule 6, 2: " + t.getKind(), t, !FORBIDDEN.contains(t.getKind()));
                if (t.getKind() == Tree.Kind.PLUS || t.getKind() == Tree.Kind.PLUS_ASSIGNMENT) {
                    rule("rule 10: texts joined by +", t, !t.toString().contains("\""));
                }
            }
            return super.scan(t, v);
        }

        @Override
        public Void visitClass(ClassTree c, Void v) {
            int fields = 0;
            for (Tree m : c.getMembers()) {
                if (m instanceof VariableTree f) {
                    Set<Modifier> mods = f.getModifiers().getFlags();
                    boolean isStatic = mods.contains(Modifier.STATIC);
                    if (!isStatic) fields++;
                    rule("rule 5: static and not final", f, !isStatic || mods.contains(Modifier.FINAL));
                }
                rule("rule 5: a block", m, !(m instanceof BlockTree));
            }
            rule("rule 11: " + fields + " fields", c, fields <= 20);
            rule("rule 2: a class inside is static", c, depth == 0 || c.getModifiers().getFlags().contains(Modifier.STATIC));
            rule("rule 2: no class deeper inside", c, depth <= 1);
            depth++;
            super.visitClass(c, v);
            depth--;
            return null;
        }

        @Override
        public Void visitNewClass(NewClassTree n, Void v) {
            rule("rule 2: an anonymous class", n, n.getClassBody() == null);
            return super.visitNewClass(n, v);
        }

        @Override
        public Void visitMethod(MethodTree m, Void v) {
            long lines = line(positions.getEndPosition(unit, m)) - line(positions.getStartPosition(unit, m)) + 1;
            rule("rule 11: " + lines + " lines in " + m.getName(), m, lines <= 60);
            rule("rule 11: parameters of " + m.getName(), m, m.getParameters().size() <= 7);
            rule("rule 6: throws", m, m.getThrows().isEmpty());
            return super.visitMethod(m, v);
        }

        @Override
        public Void visitMethodInvocation(MethodInvocationTree call, Void v) {
            String name = call.getMethodSelect().toString();
            if (name.matches("(System|Integer|Long|Math|Arrays|String|List|Character|Object|Objects)\\..*")) {
                rule("rule 4: " + name, call, LIBRARY.contains(name));
            }
            return super.visitMethodInvocation(call, v);
        }

        @Override
        public Void visitInstanceOf(InstanceOfTree t, Void v) {
            rule("no instanceof is wanted here", t, false);
            return super.visitInstanceOf(t, v);
        }
    }
}
