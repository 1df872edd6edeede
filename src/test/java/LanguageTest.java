import com.sun.source.tree.*;
import com.sun.source.util.JavacTask;
import com.sun.source.util.TreeScanner;
import java.io.File;
import java.nio.file.Files;
import java.nio.file.Path;
import java.util.ArrayList;
import java.util.Arrays;
import java.util.HashMap;
import java.util.HashSet;
import java.util.List;
import java.util.Map;
import java.util.Set;
import java.util.TreeMap;
import java.util.TreeSet;
import javax.lang.model.element.Modifier;
import javax.tools.JavaCompiler;
import javax.tools.StandardJavaFileManager;
import javax.tools.ToolProvider;

/** The rules of LANGUAGE.md that a look at the source can tell. */
public final class LanguageTest {
    private static int wrong = 0;
    private static final Set<String> LIBRARY = Set.of("Math.max", "Math.min", "Math.abs", "Math.floorMod", "Math.floorDiv", "Integer.bitCount",
            "Integer.numberOfTrailingZeros", "Arrays.fill", "Arrays.copyOf", "Arrays.copyOfRange", "System.arraycopy");
    private static final Set<String> TEXT_CALLS = Set.of("length", "charAt", "indexOf");

    private static void rule(int number, boolean kept, String what) {
        if (!kept) {
            wrong++;
            System.out.println("rule " + number + ": " + what);
        }
    }

    private static final class Look extends TreeScanner<Void, String> {
        final LineMap lines;
        final CompilationUnitTree unit;
        final com.sun.source.util.SourcePositions positions;
        final Set<String> publicMethods = new TreeSet<>();
        final Map<String, Set<String>> methodsOf = new TreeMap<>();
        final Map<String, Set<String>> calls = new HashMap<>();
        String className = "";
        int classes = 0;

        Look(CompilationUnitTree unit, com.sun.source.util.SourcePositions positions) {
            this.unit = unit;
            this.lines = unit.getLineMap();
            this.positions = positions;
        }

        @Override
        public Void visitClass(ClassTree c, String in) {
            classes++;
            String was = className;
            className = c.getSimpleName().toString();
            Set<Modifier> m = c.getModifiers().getFlags();
            rule(2, c.getKind() == Tree.Kind.CLASS, className + " is no class");
            rule(2, !className.isEmpty(), "a class without a name");
            rule(1, in == null ? m.contains(Modifier.PUBLIC) && m.contains(Modifier.FINAL) : m.contains(Modifier.STATIC) && !m.contains(Modifier.PUBLIC), className);
            rule(2, in == null || "BlankNote".equals(in), className + " is inside " + in);
            int fields = 0;
            for (Tree t : c.getMembers()) {
                rule(5, !(t instanceof BlockTree), "a block in " + className);
                if (t instanceof VariableTree v) {
                    boolean isStatic = v.getModifiers().getFlags().contains(Modifier.STATIC);
                    rule(5, !isStatic || v.getModifiers().getFlags().contains(Modifier.FINAL), v.getName() + " is static and not final");
                    boolean face = v.getName().contentEquals("NONE");
                    rule(1, !"BlankNote".equals(className) || face || v.getModifiers().getFlags().contains(Modifier.PRIVATE), v.getName() + " is not private");
                    fields += isStatic ? 0 : 1;
                }
            }
            rule(11, fields <= 20, className + " has " + fields + " fields");
            super.visitClass(c, className);
            className = was;
            return null;
        }

        @Override
        public Void visitMethod(MethodTree m, String in) {
            String name = m.getName().toString();
            Set<Modifier> flags = m.getModifiers().getFlags();
            if (flags.contains(Modifier.PUBLIC)) publicMethods.add(name);
            else if (!name.equals("<init>")) methodsOf.computeIfAbsent(className, k -> new TreeSet<>()).add(name);
            rule(1, !"BlankNote".equals(className) || flags.contains(Modifier.PUBLIC) || flags.contains(Modifier.PRIVATE), name + " is not private");
            rule(1, "BlankNote".equals(className) || !flags.contains(Modifier.PUBLIC), className + "." + name + " is public");
            rule(11, m.getParameters().size() <= 7, name + " has too many parameters");
            long from = lines.getLineNumber(positions.getStartPosition(unit, m));
            long to = lines.getLineNumber(positions.getEndPosition(unit, m));
            rule(11, to - from < 60, name + " has " + (to - from + 1) + " lines");
            return super.visitMethod(m, name.equals("<init>") ? className : name);
        }

        private void banned(int number, Tree t, String what) {
            rule(number, false, what + " at line " + lines.getLineNumber(positions.getStartPosition(unit, t)));
        }

        @Override public Void visitThrow(ThrowTree t, String in) { banned(6, t, "throw"); return null; }
        @Override public Void visitTry(TryTree t, String in) { banned(6, t, "try"); return null; }
        @Override public Void visitSynchronized(SynchronizedTree t, String in) { banned(6, t, "synchronized"); return null; }
        @Override public Void visitAssert(AssertTree t, String in) { banned(6, t, "assert"); return null; }
        @Override public Void visitLambdaExpression(LambdaExpressionTree t, String in) { banned(2, t, "lambda"); return null; }
        @Override public Void visitMemberReference(MemberReferenceTree t, String in) { banned(2, t, "method reference"); return null; }

        @Override
        public Void visitNewClass(NewClassTree t, String in) {
            rule(2, t.getClassBody() == null, "an anonymous class");
            calls.computeIfAbsent(in, k -> new HashSet<>()).add(t.getIdentifier().toString());
            return super.visitNewClass(t, in);
        }

        @Override
        public Void visitWhileLoop(WhileLoopTree t, String in) {
            rule(9, t.getCondition().toString().matches(".* < [A-Za-z_.]+.*"), in + " has a loop without a counter: " + t.getCondition());
            return super.visitWhileLoop(t, in);
        }

        @Override
        public Void visitForLoop(ForLoopTree t, String in) {
            boolean counts = t.getCondition() != null && t.getCondition().toString().matches(".*\\w (<|<=|>|>=) .*") && t.getUpdate().size() == 1;
            rule(9, counts, in + " has a loop without a counter: " + t.getCondition());
            return super.visitForLoop(t, in);
        }

        @Override
        public Void visitBinary(BinaryTree t, String in) {
            if (t.getKind() == Tree.Kind.PLUS) {
                boolean text = t.getLeftOperand().getKind() == Tree.Kind.STRING_LITERAL || t.getRightOperand().getKind() == Tree.Kind.STRING_LITERAL;
                rule(10, !text, "texts joined by + in " + in);
            }
            return super.visitBinary(t, in);
        }

        @Override
        public Void visitLiteral(LiteralTree t, String in) {
            if (t.getValue() instanceof String s) rule(4, s.chars().allMatch(c -> c >= 1 && c <= 127), "a sign beyond 127 in " + in);
            return super.visitLiteral(t, in);
        }

        @Override
        public Void visitMethodInvocation(MethodInvocationTree t, String in) {
            String call = t.getMethodSelect().toString();
            String name = call.substring(call.lastIndexOf('.') + 1);
            calls.computeIfAbsent(in, k -> new HashSet<>()).add(name);
            if (call.matches("[A-Z][a-z]+\\..*") && !call.matches("(Deeds|Finding|Law)\\..*")) rule(4, LIBRARY.contains(call), call + " is not of the library");
            return super.visitMethodInvocation(t, in);
        }
    }

    /** How many calls are open at most below a method; those that call one another count once. */
    private static int depth(String method, Look look, Set<String> open, Map<String, Integer> known) {
        if (known.containsKey(method)) return known.get(method);
        Set<String> ring = new HashSet<>();
        for (String other : reached(method, look)) if (reached(other, look).contains(method)) ring.add(other);
        ring.add(method);
        int deepest = 0;
        for (String one : ring) {
            for (String called : look.calls.getOrDefault(one, Set.of())) {
                if (!ring.contains(called) && look.calls.containsKey(called)) deepest = Math.max(deepest, depth(called, look, open, known));
                else if (!ring.contains(called)) deepest = Math.max(deepest, 1);
            }
        }
        known.put(method, deepest + 1);
        return deepest + 1;
    }

    private static Set<String> reached(String from, Look look) {
        Set<String> seen = new HashSet<>();
        List<String> next = new ArrayList<>(look.calls.getOrDefault(from, Set.of()));
        while (!next.isEmpty()) {
            String one = next.remove(next.size() - 1);
            if (seen.add(one)) next.addAll(look.calls.getOrDefault(one, Set.of()));
        }
        return seen;
    }

    private static void face(Look look) throws Exception {
        Set<String> due = new TreeSet<>();
        String doc = Files.readString(Path.of("../shared/DOC.md"));
        String face = doc.substring(doc.indexOf("public final class BlankNote {"), doc.indexOf("## Terms"));
        for (String line : face.split("\n")) {
            if (line.contains("(")) due.add(line.replaceAll("^\\s*public (int|long)?\\s*", "").trim().replace(";", ""));
        }
        Set<String> is = new TreeSet<>();
        for (java.lang.reflect.Method m : BlankNote.class.getDeclaredMethods()) {
            if (!java.lang.reflect.Modifier.isPublic(m.getModifiers())) continue;
            is.add(m.getName() + Arrays.toString(m.getParameterTypes()));
        }
        Set<String> wanted = new TreeSet<>();
        for (String d : due) {
            String name = d.substring(0, d.indexOf('('));
            if (name.equals("BlankNote")) continue;
            String args = d.substring(d.indexOf('(') + 1, d.indexOf(')'));
            List<String> types = new ArrayList<>();
            for (String a : args.split(",")) if (!a.isBlank()) types.add(a.trim().split(" ")[0]);
            wanted.add(name + types);
        }
        rule(1, is.equals(wanted), "the face is " + is + ", due is " + wanted);
        for (java.lang.reflect.Method m : BlankNote.class.getDeclaredMethods()) {
            boolean isLong = Set.of("tunes", "chance", "write").contains(m.getName());
            if (java.lang.reflect.Modifier.isPublic(m.getModifiers())) rule(1, m.getReturnType() == (isLong ? long.class : int.class), m.getName() + " answers another type");
        }
    }

    public static void main(String[] args) throws Exception {
        JavaCompiler compiler = ToolProvider.getSystemJavaCompiler();
        StandardJavaFileManager files = compiler.getStandardFileManager(null, null, null);
        JavacTask task = (JavacTask) compiler.getTask(null, files, null, null, null, files.getJavaFileObjects(new File("src/main/java/BlankNote.java")));
        CompilationUnitTree unit = task.parse().iterator().next();
        Look look = new Look(unit, com.sun.source.util.Trees.instance(task).getSourcePositions());
        for (ImportTree i : unit.getImports()) rule(4, Set.of("java.util.Arrays", "java.util.ArrayList", "java.util.List").contains(i.getQualifiedIdentifier().toString()), "" + i);
        rule(1, unit.getPackageName() == null, "a package line");
        look.scan(unit, null);
        rule(11, look.classes <= 12, look.classes + " classes");
        Set<String> own = new HashSet<>();
        for (Map.Entry<String, Set<String>> e : look.methodsOf.entrySet()) {
            own.addAll(e.getValue());
            for (String name : e.getValue()) rule(1, !look.publicMethods.contains(name), e.getKey() + "." + name + " bears a public name");
        }
        for (Set<String> called : look.calls.values()) {
            for (String name : called) {
                boolean fine = own.contains(name) || TEXT_CALLS.contains(name) || LIBRARY.stream().anyMatch(l -> l.endsWith("." + name)) || Character.isUpperCase(name.charAt(0));
                rule(4, fine, name + " is called, and is nobody's");
            }
        }
        Map<String, Integer> known = new HashMap<>();
        for (String m : look.publicMethods) rule(11, depth(m, look, new HashSet<>(), known) <= 8, m + " goes " + known.get(m) + " calls deep");
        face(look);
        int deepest = 0;
        for (int d : known.values()) deepest = Math.max(deepest, d);
        System.out.println(look.classes + " classes, " + look.publicMethods.size() + " public methods, " + deepest + " calls deep, " + wrong + " rules broken");
        if (wrong != 0) System.exit(1);
    }
}
