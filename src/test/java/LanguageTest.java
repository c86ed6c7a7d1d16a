import com.sun.source.tree.*;
import com.sun.source.util.JavacTask;
import com.sun.source.util.SourcePositions;
import com.sun.source.util.TreePathScanner;
import com.sun.source.util.Trees;
import java.io.File;
import java.nio.file.Files;
import java.nio.file.Path;
import java.util.ArrayList;
import java.util.HashMap;
import java.util.HashSet;
import java.util.LinkedHashMap;
import java.util.LinkedHashSet;
import java.util.List;
import java.util.Map;
import java.util.Set;
import java.util.TreeSet;
import java.util.regex.Matcher;
import java.util.regex.Pattern;
import javax.lang.model.element.Element;
import javax.lang.model.element.ElementKind;
import javax.lang.model.element.Modifier;
import javax.lang.model.element.TypeElement;
import javax.tools.JavaCompiler;
import javax.tools.StandardJavaFileManager;
import javax.tools.ToolProvider;

/** What of ../shared/LANGUAGE.md can be seen in the program's text, seen there; by the rules' numbers. */
public final class LanguageTest {
    private static final int MOST_LINES = 60, MOST_PARAMETERS = 7, MOST_DEEP = 8, MOST_CLASSES = 12, MOST_FIELDS = 20;
    private static final Set<String> LIBRARY = Set.of(
        "java.lang.Math.max", "java.lang.Math.min", "java.lang.Math.abs", "java.lang.Integer.bitCount",
        "java.lang.System.arraycopy", "java.util.Arrays.fill", "java.util.Arrays.copyOf", "java.util.Arrays.copyOfRange");
    private static final Set<Tree.Kind> FORBIDDEN = Set.of(
        Tree.Kind.THROW, Tree.Kind.TRY, Tree.Kind.CATCH, Tree.Kind.SYNCHRONIZED, Tree.Kind.ASSERT,
        Tree.Kind.LAMBDA_EXPRESSION, Tree.Kind.MEMBER_REFERENCE, Tree.Kind.SWITCH_EXPRESSION, Tree.Kind.ANNOTATION);

    private final Trees trees;
    private final CompilationUnitTree unit;
    private final Map<Element, Set<Element>> calls = new LinkedHashMap<>();
    private final Set<String> face = new TreeSet<>();
    private final Map<String, String> privates = new LinkedHashMap<>();
    private int classes = 0;

    private LanguageTest(Trees trees, CompilationUnitTree unit) {
        this.trees = trees;
        this.unit = unit;
    }

    public static void main(String[] args) throws Exception {
        Path program = Path.of("src/main/java/HereMiss.java");
        JavaCompiler compiler = ToolProvider.getSystemJavaCompiler();
        StandardJavaFileManager files = compiler.getStandardFileManager(null, null, null);
        JavacTask task = (JavacTask) compiler.getTask(null, files, null, List.of("-proc:none"), null,
            files.getJavaFileObjects(new File(program.toString())));
        CompilationUnitTree unit = task.parse().iterator().next();
        task.analyze();
        LanguageTest test = new LanguageTest(Trees.instance(task), unit);
        test.new Look().scan(unit, null);
        test.theFace(Files.readString(Path.of("../shared/DOC.md")));
        test.depth();
        Due.due("rule 11: at most " + MOST_CLASSES + " classes, " + test.classes, test.classes <= MOST_CLASSES ? 0 : 1, 0);
        Due.end();
    }

    private static void hold(boolean so, String rule) {
        Due.due(rule, so ? 0 : 1, 0);
    }

    private long line(Tree tree, boolean end) {
        SourcePositions places = trees.getSourcePositions();
        long at = end ? places.getEndPosition(unit, tree) : places.getStartPosition(unit, tree);
        return unit.getLineMap().getLineNumber(at);
    }

    private final class Look extends TreePathScanner<Void, Void> {
        private Element method;

        @Override public Void scan(Tree tree, Void v) {
            if (tree != null) {
                hold(!FORBIDDEN.contains(tree.getKind()), "rules 2, 6: " + tree.getKind() + " at " + line(tree, false));
            }
            return super.scan(tree, v);
        }

        @Override public Void visitImport(ImportTree tree, Void v) {
            String name = tree.getQualifiedIdentifier().toString();
            hold(name.equals("java.util.Arrays") || name.equals("java.util.ArrayList") || name.equals("java.util.List"),
                "rule 4: import " + name);
            return null;
        }

        @Override public Void visitClass(ClassTree tree, Void v) {
            classes++;
            Element type = trees.getElement(getCurrentPath());
            boolean outer = type.getEnclosingElement().getKind() == ElementKind.PACKAGE;
            Set<Modifier> is = type.getModifiers();
            String name = tree.getSimpleName().toString();
            hold(!name.isEmpty(), "rule 2: an anonymous class at " + line(tree, false));
            if (outer) {
                hold(is.contains(Modifier.PUBLIC) && is.contains(Modifier.FINAL), "rule 1: public and final");
            } else {
                hold(type.getEnclosingElement().getKind() == ElementKind.CLASS, "rule 2: a local class " + name);
                hold(is.contains(Modifier.STATIC) && !is.contains(Modifier.PUBLIC), "rule 1: static and hidden: " + name);
            }
            int fields = 0;
            for (Tree member : tree.getMembers()) {
                hold(member.getKind() != Tree.Kind.BLOCK, "rule 5: an initialiser block in " + name);
                if (member instanceof VariableTree field && !field.getModifiers().getFlags().contains(Modifier.STATIC)) {
                    fields++;
                }
            }
            hold(fields <= MOST_FIELDS, "rule 11: " + name + " has " + fields + " fields");
            return super.visitClass(tree, v);
        }

        @Override public Void visitVariable(VariableTree tree, Void v) {
            Element is = trees.getElement(getCurrentPath());
            if (is.getKind() == ElementKind.FIELD) {
                if (is.getModifiers().contains(Modifier.STATIC)) {
                    hold(is.getModifiers().contains(Modifier.FINAL), "rule 5: static, not final: " + is);
                    hold(tree.getInitializer() != null, "rule 5: static, without a value: " + is);
                }
                member(is, "field " + is);
            }
            return super.visitVariable(tree, v);
        }

        private void member(Element is, String name) {
            boolean ofFace = ((TypeElement) is.getEnclosingElement()).getQualifiedName().contentEquals("HereMiss");
            if (is.getModifiers().contains(Modifier.PUBLIC)) {
                hold(ofFace, "rule 1: public in a class inside: " + name);
                face.add(name);
            } else {
                hold(!ofFace || is.getModifiers().contains(Modifier.PRIVATE), "rule 1: neither public nor private: " + name);
                if (is.getKind() == ElementKind.METHOD) {
                    privates.put(is.getSimpleName().toString(), is.getEnclosingElement() + "." + is);
                }
            }
        }

        @Override public Void visitMethod(MethodTree tree, Void v) {
            method = trees.getElement(getCurrentPath());
            calls.putIfAbsent(method, new LinkedHashSet<>());
            String name = method.getEnclosingElement() + "." + method;
            boolean written = trees.getSourcePositions().getEndPosition(unit, tree) >= 0;
            long lines = written ? line(tree, true) - line(tree, false) + 1 : 0;
            hold(lines <= MOST_LINES, "rule 11: " + name + " has " + lines + " lines");
            hold(tree.getParameters().size() <= MOST_PARAMETERS, "rule 11: parameters of " + name);
            if (method.getKind() == ElementKind.METHOD) {
                member(method, "method " + method);
            }
            super.visitMethod(tree, v);
            method = null;
            return null;
        }

        @Override public Void visitMethodInvocation(MethodInvocationTree tree, Void v) {
            called(trees.getElement(getCurrentPath()));
            return super.visitMethodInvocation(tree, v);
        }

        @Override public Void visitNewClass(NewClassTree tree, Void v) {
            called(trees.getElement(getCurrentPath()));
            hold(method != null && method.getKind() == ElementKind.CONSTRUCTOR, "an object made by a call, at " + line(tree, false));
            return super.visitNewClass(tree, v);
        }

        @Override public Void visitNewArray(NewArrayTree tree, Void v) {
            hold(method == null || method.getKind() == ElementKind.CONSTRUCTOR, "an array made by a call, at " + line(tree, false));
            return super.visitNewArray(tree, v);
        }

        private void called(Element to) {
            String owner = to.getEnclosingElement().toString();
            if (owner.startsWith("java.")) {
                boolean constructor = to.getSimpleName().contentEquals("<init>") && owner.equals("java.lang.Object");
                hold(constructor || LIBRARY.contains(owner + "." + to.getSimpleName()), "rule 4: " + owner + "." + to);
            } else if (method != null) {
                calls.computeIfAbsent(method, key -> new LinkedHashSet<>()).add(to);
            }
        }

        @Override public Void visitLiteral(LiteralTree tree, Void v) {
            hold(tree.getKind() != Tree.Kind.STRING_LITERAL, "the program needs no text, at " + line(tree, false));
            return null;
        }
    }

    /** Rule 1: the face is the document's, to the letter. */
    private void theFace(String document) {
        Set<String> due = new TreeSet<>();
        Matcher constants = Pattern.compile("public static final int (.*);").matcher(document);
        while (constants.find()) {
            for (String constant : constants.group(1).split(",")) {
                due.add("field " + constant.split("=")[0].trim());
            }
        }
        Matcher methods = Pattern.compile("public (?:int|long) (\\w+)\\((.*)\\);").matcher(document);
        while (methods.find()) {
            String types = methods.group(2).replaceAll("(int|long) \\w+", "$1").replace(" ", "");
            due.add("method " + methods.group(1) + "(" + types + ")");
            String twin = privates.get(methods.group(1));
            hold(twin == null, "rule 1: a hidden method bears a public one's name: " + twin);
        }
        hold(due.size() == 46, "the document's face, read: " + due.size());
        hold(due.equals(face), "rule 1: the face is " + face);
    }

    /** Rule 11: how deep calls go that are no recursion; methods that call one another count as one. */
    private void depth() {
        Map<Element, Set<Element>> reach = new HashMap<>();
        for (Element from : calls.keySet()) {
            Set<Element> reached = new HashSet<>();
            List<Element> open = new ArrayList<>(List.of(from));
            while (!open.isEmpty()) {
                for (Element to : calls.getOrDefault(open.remove(open.size() - 1), Set.of())) {
                    if (reached.add(to)) {
                        open.add(to);
                    }
                }
            }
            reach.put(from, reached);
        }
        for (Element from : calls.keySet()) {
            if (from.getModifiers().contains(Modifier.PUBLIC)) {
                int deep = deepest(from, reach, new HashMap<>());
                hold(deep <= MOST_DEEP, "rule 11: " + from + " goes " + deep + " deep");
            }
        }
    }

    private int deepest(Element from, Map<Element, Set<Element>> reach, Map<Element, Integer> known) {
        if (known.containsKey(from)) {
            return known.get(from);
        }
        Set<Element> together = new LinkedHashSet<>(Set.of(from));
        for (Element to : reach.getOrDefault(from, Set.of())) {
            if (reach.getOrDefault(to, Set.of()).contains(from)) {
                together.add(to);
            }
        }
        int deep = 0;
        for (Element one : together) {
            for (Element to : calls.getOrDefault(one, Set.of())) {
                deep = together.contains(to) ? deep : Math.max(deep, deepest(to, reach, known));
            }
        }
        known.put(from, deep + 1);
        return deep + 1;
    }
}
