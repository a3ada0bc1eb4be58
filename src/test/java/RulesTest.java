import com.sun.source.tree.AssertTree;
import com.sun.source.tree.AnnotationTree;
import com.sun.source.tree.BinaryTree;
import com.sun.source.tree.BlockTree;
import com.sun.source.tree.ClassTree;
import com.sun.source.tree.CompilationUnitTree;
import com.sun.source.tree.CompoundAssignmentTree;
import com.sun.source.tree.DoWhileLoopTree;
import com.sun.source.tree.ForLoopTree;
import com.sun.source.tree.LambdaExpressionTree;
import com.sun.source.tree.LiteralTree;
import com.sun.source.tree.MemberReferenceTree;
import com.sun.source.tree.MethodInvocationTree;
import com.sun.source.tree.MethodTree;
import com.sun.source.tree.NewClassTree;
import com.sun.source.tree.SwitchExpressionTree;
import com.sun.source.tree.SynchronizedTree;
import com.sun.source.tree.ThrowTree;
import com.sun.source.tree.Tree;
import com.sun.source.tree.TryTree;
import com.sun.source.tree.TypeCastTree;
import com.sun.source.tree.VariableTree;
import com.sun.source.tree.WhileLoopTree;
import com.sun.source.util.JavacTask;
import com.sun.source.util.TreePath;
import com.sun.source.util.TreePathScanner;
import com.sun.source.util.Trees;
import java.nio.file.Files;
import java.nio.file.Path;
import java.util.ArrayList;
import java.util.HashMap;
import java.util.HashSet;
import java.util.LinkedHashMap;
import java.util.LinkedHashSet;
import java.util.List;
import java.util.Map;
import java.util.Set;
import java.util.TreeSet;
import javax.lang.model.element.Element;
import javax.lang.model.element.ElementKind;
import javax.lang.model.element.ExecutableElement;
import javax.lang.model.element.Modifier;
import javax.lang.model.element.TypeElement;
import javax.lang.model.type.ArrayType;
import javax.lang.model.type.DeclaredType;
import javax.lang.model.type.TypeMirror;
import javax.tools.JavaCompiler;
import javax.tools.StandardJavaFileManager;
import javax.tools.ToolProvider;

/**
 * The rules of ../shared/LANGUAGE.md, read off the source as javac understands it: each message begins
 * with the rule's number. Rules 7, 9 and 13 can be seen but in part: drawn runs hold the class to 7.
 */
public final class RulesTest {
    private static final Path SOURCE = Path.of("src/main/java/PapersEarly.java");
    private static final int MOST_CLASSES = 12, MOST_FIELDS = 20, MOST_LINES = 60, MOST_PARAMETERS = 7, DEEPEST = 8;

    /** What rule 4 lists, as far as a class of numbers can want it. */
    private static final Set<String> LIBRARY = Set.of(
        "String.length", "String.charAt", "String.isEmpty", "String.equals", "String.indexOf", "String.substring",
        "String.toCharArray", "StringBuilder.append", "StringBuilder.charAt", "StringBuilder.setCharAt",
        "StringBuilder.setLength", "StringBuilder.deleteCharAt", "StringBuilder.reverse", "StringBuilder.length",
        "StringBuilder.toString", "Math.max", "Math.min", "Math.abs", "Math.floorDiv", "Math.floorMod",
        "Integer.compare", "Integer.max", "Integer.min", "Integer.bitCount", "Long.compare", "Long.max", "Long.min",
        "System.arraycopy", "Arrays.copyOf", "Arrays.copyOfRange", "Arrays.fill");
    private static final Set<String> NEVER_THEIRS = Set.of("equals", "hashCode", "toString", "getClass", "finalize");
    /** The methods that may stand open more than once: a text's parts, and an order that grows. */
    private static final Set<String> RECURSION = Set.of(
        "Reader.either", "Reader.both", "Reader.negated", "Reader.behindNot", "Reader.compared", "Reader.sum",
        "Reader.term", "Reader.one", "Reader.behindMinus", "Search.grow", "Search.goOn");

    private static final Due due = new Due("RulesTest");

    private final Trees trees;
    private final CompilationUnitTree unit;
    private final List<TypeElement> classes = new ArrayList<>();
    private final Map<ExecutableElement, Set<ExecutableElement>> calls = new LinkedHashMap<>();

    private RulesTest(Trees trees, CompilationUnitTree unit) {
        this.trees = trees;
        this.unit = unit;
    }

    public static void main(String[] args) throws Exception {
        JavaCompiler javac = ToolProvider.getSystemJavaCompiler();
        due.holds("java is that of a JDK, which has the compiler with it", javac != null);
        if (javac == null) due.end();
        StandardJavaFileManager files = javac.getStandardFileManager(null, null, null);
        JavacTask task = (JavacTask) javac.getTask(null, files, null,
            List.of("--release", "17", "-proc:none"), null, files.getJavaFileObjects(SOURCE));
        CompilationUnitTree unit = task.parse().iterator().next();
        task.analyze();
        RulesTest test = new RulesTest(Trees.instance(task), unit);
        test.signs();
        test.reads();
        test.classes();
        test.recursion();
        test.depth();
        due.end();
    }

    private static void holds(int rule, String what, boolean so) {
        due.holds("rule " + rule + ": " + what, so);
    }

    private static String nameOf(Element e) {
        String name = e.getKind() == ElementKind.CONSTRUCTOR ? "new" : e.getSimpleName().toString();
        return e.getEnclosingElement().getSimpleName() + "." + name;
    }

    private long lineOf(Tree tree) {
        return unit.getLineMap().getLineNumber(trees.getSourcePositions().getStartPosition(unit, tree));
    }

    private long lastLineOf(Tree tree) {
        return unit.getLineMap().getLineNumber(trees.getSourcePositions().getEndPosition(unit, tree));
    }

    private boolean isOwn(Element e) {
        for (Element at = e; at != null; at = at.getEnclosingElement()) {
            if (at.getSimpleName().contentEquals("PapersEarly") && at instanceof TypeElement) {
                return true;
            }
        }
        return false;
    }

    private void signs() throws Exception {
        holds(3, "a source of the signs 10 and 32 to 126", Files.readString(SOURCE).matches("[\\n -~]*"));
        holds(1, "no package", unit.getPackageName() == null);
        holds(1, "one class in the file", unit.getTypeDecls().size() == 1);
        unit.getImports().forEach(i -> holds(4, "" + i, Set.of("java.util.Arrays", "java.util.ArrayList", "java.util.List")
            .contains(i.getQualifiedIdentifier().toString())));
    }

    /** Goes through the whole tree once: what stands there, and who calls whom. */
    private void reads() {
        new TreePathScanner<Void, Void>() {
            private ExecutableElement within = null;

            private TypeMirror typeOf(Tree tree) {
                return trees.getTypeMirror(new TreePath(getCurrentPath(), tree));
            }

            private void never(int rule, String what, Tree tree) {
                holds(rule, "no " + what + ", line " + lineOf(tree), false);
            }

            @Override
            public Void visitClass(ClassTree tree, Void none) {
                TypeElement type = (TypeElement) trees.getElement(getCurrentPath());
                holds(2, type + " is neither local nor anonymous", type.getNestingKind().toString().matches("TOP_LEVEL|MEMBER"));
                classes.add(type);
                return super.visitClass(tree, none);
            }

            @Override
            public Void visitMethod(MethodTree tree, Void none) {
                within = (ExecutableElement) trees.getElement(getCurrentPath());
                calls.putIfAbsent(within, new LinkedHashSet<>());
                holds(11, nameOf(within) + " has seven parameters at most", tree.getParameters().size() <= MOST_PARAMETERS);
                holds(11, nameOf(within) + " is of some sixty lines", lastLineOf(tree) - lineOf(tree) < MOST_LINES);
                holds(6, nameOf(within) + " is none of Object's", !NEVER_THEIRS.contains(tree.getName().toString()));
                super.visitMethod(tree, none);
                within = null;
                return null;
            }

            @Override
            public Void visitBlock(BlockTree tree, Void none) {
                holds(5, "no static block, line " + lineOf(tree), !tree.isStatic());
                holds(5, "no block outside a method, line " + lineOf(tree), within != null);
                return super.visitBlock(tree, none);
            }

            @Override
            public Void visitVariable(VariableTree tree, Void none) {
                TypeMirror type = trees.getElement(getCurrentPath()).asType();
                holds(3, "of a type that is left: " + tree.getName() + ", line " + lineOf(tree), isLeft(type));
                return super.visitVariable(tree, none);
            }

            @Override
            public Void visitMethodInvocation(MethodInvocationTree tree, Void none) {
                ExecutableElement called = (ExecutableElement) trees.getElement(getCurrentPath());
                boolean implied = called.getKind() == ElementKind.CONSTRUCTOR && !isOwn(called);
                if (isOwn(called)) {
                    addCall(called);
                } else if (!implied) {
                    holds(4, nameOf(called) + ", line " + lineOf(tree), LIBRARY.contains(nameOf(called)) || clonesArray(tree, called));
                }
                return super.visitMethodInvocation(tree, none);
            }

            private boolean clonesArray(MethodInvocationTree tree, ExecutableElement called) {
                return called.getSimpleName().contentEquals("clone") && typeOf(tree) instanceof ArrayType;
            }

            private void addCall(ExecutableElement called) {
                if (within != null) {
                    calls.get(within).add(called);
                }
            }

            @Override
            public Void visitNewClass(NewClassTree tree, Void none) {
                ExecutableElement made = (ExecutableElement) trees.getElement(getCurrentPath());
                holds(2, "no class of its own at a new, line " + lineOf(tree), tree.getClassBody() == null);
                holds(4, "makes a " + nameOf(made) + ", line " + lineOf(tree), isOwn(made));
                addCall(made);
                holds(12, "a new in a loop has a bound (for with a counter), line " + lineOf(tree), inBoundLoops());
                return super.visitNewClass(tree, none);
            }

            private boolean inBoundLoops() {
                for (Tree at : getCurrentPath()) {
                    if (at instanceof WhileLoopTree || at instanceof DoWhileLoopTree) return false;
                }
                return true;
            }

            @Override
            public Void visitWhileLoop(WhileLoopTree tree, Void none) {
                holds(9, "an end that is seen, line " + lineOf(tree), tree.getCondition().toString().contains("<")
                    || tree.getCondition().toString().contains(">"));
                return super.visitWhileLoop(tree, none);
            }

            @Override
            public Void visitForLoop(ForLoopTree tree, Void none) {
                holds(9, "a counter against a bound, line " + lineOf(tree), tree.getCondition() != null
                    && tree.getCondition().toString().matches(".*[<>].*") && tree.getUpdate().size() == 1);
                return super.visitForLoop(tree, none);
            }

            @Override
            public Void visitBinary(BinaryTree tree, Void none) {
                String left = "" + typeOf(tree.getLeftOperand());
                String right = "" + typeOf(tree.getRightOperand());
                boolean compares = tree.getKind() == Tree.Kind.EQUAL_TO || tree.getKind() == Tree.Kind.NOT_EQUAL_TO;
                boolean texts = left.matches("java.lang.(String|Integer)") || right.matches("java.lang.(String|Integer)");
                holds(6, "no == of Strings or Integers, line " + lineOf(tree), !compares || !texts);
                holds(10, "no texts joined by +, line " + lineOf(tree), tree.getKind() != Tree.Kind.PLUS || !texts);
                return super.visitBinary(tree, none);
            }

            @Override
            public Void visitCompoundAssignment(CompoundAssignmentTree tree, Void none) {
                holds(10, "no texts joined by +=, line " + lineOf(tree), typeOf(tree.getVariable()).getKind().isPrimitive());
                return super.visitCompoundAssignment(tree, none);
            }

            @Override
            public Void visitTypeCast(TypeCastTree tree, Void none) {
                holds(6, "casts of numbers alone, line " + lineOf(tree), typeOf(tree.getType()).getKind().isPrimitive());
                return super.visitTypeCast(tree, none);
            }

            @Override
            public Void visitLiteral(LiteralTree tree, Void none) {
                if (tree.getValue() instanceof String text) {
                    holds(4, "a constant of the signs 1 to 127, line " + lineOf(tree), text.matches("[\\x01-\\x7f]*"));
                }
                return super.visitLiteral(tree, none);
            }

            @Override
            public Void visitLambdaExpression(LambdaExpressionTree tree, Void none) {
                never(2, "lambda", tree);
                return null;
            }

            @Override
            public Void visitMemberReference(MemberReferenceTree tree, Void none) {
                never(2, "method reference", tree);
                return null;
            }

            @Override
            public Void visitThrow(ThrowTree tree, Void none) {
                never(6, "throw", tree);
                return null;
            }

            @Override
            public Void visitTry(TryTree tree, Void none) {
                never(6, "try", tree);
                return null;
            }

            @Override
            public Void visitSynchronized(SynchronizedTree tree, Void none) {
                never(6, "synchronized", tree);
                return null;
            }

            @Override
            public Void visitAssert(AssertTree tree, Void none) {
                never(6, "assert", tree);
                return null;
            }

            @Override
            public Void visitAnnotation(AnnotationTree tree, Void none) {
                never(4, "annotation", tree);
                return null;
            }

            @Override
            public Void visitSwitchExpression(SwitchExpressionTree tree, Void none) {
                never(10, "switch that is no statement", tree);
                return null;
            }
        }.scan(unit, null);
    }

    private boolean isLeft(TypeMirror type) {
        if (type instanceof ArrayType row) {
            TypeMirror of = row.getComponentType();
            boolean twoOfNumbers = of instanceof ArrayType inner && inner.getComponentType().getKind().isPrimitive();
            return of.getKind().isPrimitive() || twoOfNumbers || isOwnType(of);
        }
        return type.getKind().isPrimitive() || isOwnType(type) || type.toString().equals("java.lang.String")
            || type.toString().equals("java.lang.StringBuilder");
    }

    private boolean isOwnType(TypeMirror type) {
        return type instanceof DeclaredType declared && isOwn(declared.asElement());
    }

    private void classes() {
        holds(11, "twelve classes at most", classes.size() <= MOST_CLASSES);
        Set<String> open = new HashSet<>();
        for (Element e : classes.get(0).getEnclosedElements()) {
            boolean isPublic = e.getModifiers().contains(Modifier.PUBLIC);
            boolean isPrivate = e.getModifiers().contains(Modifier.PRIVATE);
            holds(1, e + " is public, private, or a class", isPublic || isPrivate || e instanceof TypeElement);
            if (isPublic && e.getKind() == ElementKind.METHOD) open.add(e.getSimpleName().toString());
        }
        for (TypeElement type : classes) {
            boolean inside = type != classes.get(0);
            holds(2, type + " is static and not public", !inside || type.getModifiers().contains(Modifier.STATIC)
                && !type.getModifiers().contains(Modifier.PUBLIC) && !type.getModifiers().contains(Modifier.PROTECTED));
            int fields = 0;
            for (Element e : type.getEnclosedElements()) {
                boolean isStatic = e.getModifiers().contains(Modifier.STATIC);
                fields += e.getKind() == ElementKind.FIELD && !isStatic ? 1 : 0;
                if (e.getKind() == ElementKind.FIELD && isStatic) staticField(e);
                if (e.getKind() == ElementKind.METHOD && e.getModifiers().contains(Modifier.PRIVATE)) {
                    holds(1, nameOf(e) + " bears no public method's name", !open.contains(e.getSimpleName().toString()));
                }
            }
            holds(11, type + " has some twenty fields", fields <= MOST_FIELDS);
        }
    }

    private void staticField(Element field) {
        holds(5, nameOf(field) + " is final", field.getModifiers().contains(Modifier.FINAL));
        holds(5, nameOf(field) + " is a number, a text or a row of numbers",
            field.asType().toString().matches("int|long|boolean|char|java.lang.String|(int|long|char|byte)\\[\\]"));
    }

    /** Whom a call may reach: the method itself and those of classes under its own. */
    private Set<ExecutableElement> reached(ExecutableElement called) {
        Set<ExecutableElement> all = new LinkedHashSet<>();
        all.add(called);
        for (ExecutableElement other : calls.keySet()) {
            boolean alike = other.getKind() == ElementKind.METHOD && other.getSimpleName().equals(called.getSimpleName())
                && other.getParameters().size() == called.getParameters().size();
            if (alike && isUnder((TypeElement) other.getEnclosingElement(), called.getEnclosingElement())) all.add(other);
        }
        return all;
    }

    private static boolean isUnder(TypeElement type, Element above) {
        for (TypeElement at = type; at.getSuperclass() instanceof DeclaredType up; at = (TypeElement) up.asElement()) {
            if (up.asElement().equals(above)) return true;
        }
        return false;
    }

    private Set<ExecutableElement> next(ExecutableElement from) {
        Set<ExecutableElement> all = new LinkedHashSet<>();
        for (ExecutableElement called : calls.getOrDefault(from, Set.of())) {
            all.addAll(reached(called));
        }
        return all;
    }

    private Set<ExecutableElement> behind(ExecutableElement from) {
        Set<ExecutableElement> seen = new HashSet<>();
        List<ExecutableElement> open = new ArrayList<>(next(from));
        while (!open.isEmpty()) {
            ExecutableElement at = open.remove(open.size() - 1);
            if (seen.add(at)) open.addAll(next(at));
        }
        return seen;
    }

    private final Map<ExecutableElement, Set<ExecutableElement>> behind = new HashMap<>();

    private boolean isRecursion(ExecutableElement a, ExecutableElement b) {
        return behind.get(a).contains(b) && behind.get(b).contains(a);
    }

    private void recursion() {
        Set<String> found = new TreeSet<>();
        for (ExecutableElement method : calls.keySet()) {
            behind.put(method, behind(method));
        }
        for (ExecutableElement method : calls.keySet()) {
            if (!behind.get(method).contains(method)) continue;
            // TAKES and TIPS of a KIND ask the KIND above: another method of the same name, not itself.
            if (asksAbove(method)) continue;
            found.add(nameOf(method));
            boolean asksItself = calls.get(method).contains(method);
            holds(8, nameOf(method) + " is private", method.getModifiers().contains(Modifier.PRIVATE));
            holds(8, nameOf(method) + ", if it calls itself, is static",
                !asksItself || method.getModifiers().contains(Modifier.STATIC));
        }
        holds(8, "no recursion but this: " + found, found.equals(new TreeSet<>(RECURSION)));
    }

    private boolean asksAbove(ExecutableElement method) {
        return method.getSimpleName().toString().matches("takes|gives");
    }

    /** Rule 11: calls of a recursion count as one; a KIND's call of the KIND above it as another one. */
    private void depth() {
        int deepest = 0;
        List<String> way = List.of();
        for (ExecutableElement method : calls.keySet()) {
            List<String> longest = longest(method, new HashSet<>());
            if (longest.size() > deepest) {
                deepest = longest.size();
                way = longest;
            }
        }
        holds(11, "no more than eight deep: " + way, deepest <= DEEPEST);
    }

    private List<String> longest(ExecutableElement from, Set<ExecutableElement> open) {
        List<String> best = List.of();
        open.add(from);
        boolean parts = RECURSION.contains(nameOf(from));
        Set<ExecutableElement> to = parts ? leaving(from) : asksAbove(from) ? calls.get(from) : next(from);
        for (ExecutableElement called : to) {
            if (open.contains(called) || !calls.containsKey(called)) continue;
            List<String> then = longest(called, open);
            if (then.size() > best.size()) best = then;
        }
        open.remove(from);
        List<String> all = new ArrayList<>(List.of(parts ? nameOf(from) + " .." : nameOf(from)));
        all.addAll(best);
        return all;
    }

    private Set<ExecutableElement> leaving(ExecutableElement from) {
        Set<ExecutableElement> all = new LinkedHashSet<>();
        for (ExecutableElement method : calls.keySet()) {
            if (method.equals(from) || isRecursion(method, from)) all.addAll(next(method));
        }
        all.removeIf(m -> m.equals(from) || isRecursion(m, from));
        return all;
    }
}
