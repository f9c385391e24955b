import com.sun.source.tree.*;
import com.sun.source.util.JavacTask;
import com.sun.source.util.TreePath;
import com.sun.source.util.TreePathScanner;
import com.sun.source.util.Trees;
import java.io.IOException;
import java.nio.file.Files;
import java.nio.file.Path;
import java.util.HashMap;
import java.util.HashSet;
import java.util.List;
import java.util.Map;
import java.util.Set;
import java.util.TreeMap;
import java.util.TreeSet;
import javax.lang.model.element.Element;
import javax.lang.model.element.ExecutableElement;
import javax.lang.model.element.Modifier;
import javax.lang.model.element.VariableElement;
import javax.lang.model.type.TypeKind;
import javax.lang.model.type.TypeMirror;
import javax.tools.JavaCompiler;
import javax.tools.StandardJavaFileManager;
import javax.tools.ToolProvider;

/** The rules of LANGUAGE.md, by the tree that the compiler makes of the program. Run from the project's folder. */
public final class LanguageTest {
    private static final Path PROGRAM = Path.of("src/main/java/StringVotes.java");
    private static final int MOST_LINES = 60;
    private static final int MOST_PARAMETERS = 7;
    private static final int MOST_DEEP = 8;
    private static final int MOST_CLASSES = 12;
    private static final int MOST_FIELDS = 20;
    private static final Set<String> LIBRARY = Set.of("Math.min", "Math.max", "Integer.bitCount", "System.arraycopy");
    private static final Set<TypeKind> NUMBERS = Set.of(TypeKind.INT, TypeKind.BOOLEAN, TypeKind.FLOAT);
    /** Where arrays may be indexed, as the index is looked at there. */
    private static final Set<String> INDEXING = Set.of("Row.get", "Row.put", "Row.removeAt", "StringVotes.pastState",
        "StringVotes.StringVotes");

    public static void main(String[] args) throws IOException {
        String text = Files.readString(PROGRAM);
        Due.holds("rule 4: all signs are 1 to 127", text.chars().allMatch(sign -> sign >= 1 && sign <= 127));
        JavaCompiler compiler = ToolProvider.getSystemJavaCompiler();
        try (StandardJavaFileManager files = compiler.getStandardFileManager(null, null, null)) {
            JavacTask task = (JavacTask) compiler.getTask(null, files, null, List.of("-proc:none"), null,
                files.getJavaFileObjects(PROGRAM));
            CompilationUnitTree unit = task.parse().iterator().next();
            task.analyze();
            Rules rules = new Rules(Trees.instance(task), unit);
            Due.holds("rule 1: no package, no import", unit.getPackageName() == null && unit.getImports().isEmpty());
            Due.is("rule 1: classes of the file", unit.getTypeDecls().size(), 1);
            rules.scan(unit, null);
            rules.end();
        }
        Due.end("LanguageTest");
    }

    private static final class Rules extends TreePathScanner<Void, Void> {
        private final Trees trees;
        private final CompilationUnitTree unit;
        private final Map<String, Set<String>> calls = new TreeMap<>();
        private final Set<String> publicNames = new TreeSet<>();
        private final Set<String> otherNames = new TreeSet<>();
        private final Map<String, Integer> depths = new HashMap<>();
        private String method = "";
        private int classes = 0;

        private Rules(Trees trees, CompilationUnitTree unit) {
            this.trees = trees;
            this.unit = unit;
        }

        private void end() {
            Due.holds("rule 11: some twelve classes: " + classes, classes <= MOST_CLASSES);
            otherNames.retainAll(publicNames);
            Due.holds("rule 1: names of the face are not given again: " + otherNames, otherNames.isEmpty());
            for (String each : calls.keySet()) {
                int depth = depth(each, new HashSet<>());
                Due.holds("rule 11: calls are eight deep at most: " + each + " " + depth, depth <= MOST_DEEP);
            }
        }

        /** How many calls stand open at once, the library's among them. */
        private int depth(String of, Set<String> open) {
            if (depths.containsKey(of)) {
                return depths.get(of);
            }
            open.add(of);
            int deepest = 0;
            for (String called : calls.getOrDefault(of, Set.of())) {
                boolean isOpen = open.contains(called);
                Due.holds("rule 8: no recursion: " + of + " to " + called, !isOpen);
                deepest = Math.max(deepest, isOpen ? 0 : depth(called, open));
            }
            open.remove(of);
            depths.put(of, deepest + 1);
            return deepest + 1;
        }

        private String where(Tree tree) {
            long line = unit.getLineMap().getLineNumber(trees.getSourcePositions().getStartPosition(unit, tree));
            return " (line " + line + ", " + method + ")";
        }

        private void never(int rule, String what, Tree tree) {
            Due.holds("rule " + rule + ": no " + what + where(tree), false);
        }

        private Element elementOf(Tree tree) {
            return trees.getElement(new TreePath(getCurrentPath(), tree));
        }

        private TypeMirror typeOf(Tree tree) {
            return trees.getTypeMirror(new TreePath(getCurrentPath(), tree));
        }

        private static String nameOf(ExecutableElement element) {
            String inside = element.getEnclosingElement().getSimpleName().toString();
            boolean isConstructor = element.getSimpleName().contentEquals("<init>");
            return inside + "." + (isConstructor ? inside : element.getSimpleName().toString());
        }

        private static boolean isOwn(Element element) {
            Element outermost = element;
            while (outermost.getEnclosingElement() != null && outermost.getEnclosingElement().getKind().isClass()) {
                outermost = outermost.getEnclosingElement();
            }
            return outermost.getSimpleName().contentEquals("StringVotes");
        }

        @Override
        public Void visitClass(ClassTree tree, Void nothing) {
            classes++;
            int fields = 0;
            for (Tree member : tree.getMembers()) {
                boolean isField = member instanceof VariableTree;
                if (isField && !((VariableTree) member).getModifiers().getFlags().contains(Modifier.STATIC)) {
                    fields++;
                }
                Due.holds("rule 5: no initialiser block" + where(member), member.getKind() != Tree.Kind.BLOCK);
            }
            Due.holds("rule 11: some twenty fields: " + tree.getSimpleName(), fields <= MOST_FIELDS);
            Due.holds("rule 2: a class, final: " + tree.getSimpleName(), tree.getKind() == Tree.Kind.CLASS
                && tree.getModifiers().getFlags().contains(Modifier.FINAL));
            return super.visitClass(tree, nothing);
        }

        @Override
        public Void visitMethod(MethodTree tree, Void nothing) {
            ExecutableElement element = (ExecutableElement) trees.getElement(getCurrentPath());
            String outer = method;
            method = nameOf(element);
            boolean isNew = calls.put(method, new TreeSet<>()) == null;
            Due.holds("told apart by its name: " + method, isNew);
            boolean isPublic = element.getModifiers().contains(Modifier.PUBLIC);
            Due.holds("rule 1: public in the face alone, private elsewhere" + where(tree),
                isPublic ? method.startsWith("StringVotes.") : element.getModifiers().contains(Modifier.PRIVATE));
            (isPublic ? publicNames : otherNames).add(element.getSimpleName().toString().replace("<init>", method));
            Due.holds("rule 11: parameters" + where(tree), tree.getParameters().size() <= MOST_PARAMETERS);
            long begin = trees.getSourcePositions().getStartPosition(unit, tree);
            long end = trees.getSourcePositions().getEndPosition(unit, tree);
            long lines = unit.getLineMap().getLineNumber(end) - unit.getLineMap().getLineNumber(begin) + 1;
            Due.holds("rule 11: a short method" + where(tree), lines <= MOST_LINES);
            Due.holds("rule 6: names no exceptions" + where(tree), tree.getThrows().isEmpty());
            TypeMirror answer = element.getReturnType();
            Due.holds("rule 3: what it answers" + where(tree), answer.getKind() == TypeKind.VOID || isAllowed(answer));
            super.visitMethod(tree, nothing);
            method = outer;
            return null;
        }

        private boolean isAllowed(TypeMirror type) {
            if (type.getKind() == TypeKind.ARRAY) {
                return type.toString().equals("int[]") || type.toString().equals("StringVotes.Parliament[]");
            }
            return NUMBERS.contains(type.getKind()) || type.toString().startsWith("StringVotes.");
        }

        @Override
        public Void visitVariable(VariableTree tree, Void nothing) {
            VariableElement element = (VariableElement) trees.getElement(getCurrentPath());
            Due.holds("rule 3: its type" + where(tree) + ": " + tree, isAllowed(element.asType()));
            boolean isField = element.getKind().isField();
            if (isField && element.getModifiers().contains(Modifier.STATIC)) {
                Due.holds("rule 5: a constant: " + tree, element.getConstantValue() instanceof Integer);
            } else if (isField) {
                Due.holds("rule 1: private: " + tree, element.getModifiers().contains(Modifier.PRIVATE));
                Due.holds("made in the constructor: " + tree, tree.getInitializer() == null);
            }
            return super.visitVariable(tree, nothing);
        }

        @Override
        public Void visitMethodInvocation(MethodInvocationTree tree, Void nothing) {
            ExecutableElement called = (ExecutableElement) elementOf(tree);
            String name = nameOf(called);
            boolean isImplied = name.equals("Object.Object");
            Due.holds("rule 4: may be called: " + name, isOwn(called) || LIBRARY.contains(name) || isImplied);
            if (!isImplied) {
                calls.get(method).add(name);
            }
            return super.visitMethodInvocation(tree, nothing);
        }

        @Override
        public Void visitNewClass(NewClassTree tree, Void nothing) {
            Due.holds("no call makes an object" + where(tree), isConstructor());
            Due.holds("rule 10: no anonymous class" + where(tree), tree.getClassBody() == null);
            calls.get(method).add(nameOf((ExecutableElement) elementOf(tree)));
            return super.visitNewClass(tree, nothing);
        }

        @Override
        public Void visitNewArray(NewArrayTree tree, Void nothing) {
            Due.holds("no call makes an array" + where(tree), isConstructor());
            Due.is("rule 3: of one dimension" + where(tree), tree.getDimensions().size(), 1);
            return super.visitNewArray(tree, nothing);
        }

        private boolean isConstructor() {
            String[] names = method.split("\\.");
            return names.length == 2 && names[0].equals(names[1]);
        }

        @Override
        public Void visitArrayAccess(ArrayAccessTree tree, Void nothing) {
            Due.holds("rule 7: an index that is looked at" + where(tree), INDEXING.contains(method));
            return super.visitArrayAccess(tree, nothing);
        }

        @Override
        public Void visitBinary(BinaryTree tree, Void nothing) {
            if (tree.getKind() == Tree.Kind.DIVIDE || tree.getKind() == Tree.Kind.REMAINDER) {
                divisor(tree, tree.getRightOperand());
            }
            Due.holds("rule 10: no joining by +" + where(tree), NUMBERS.contains(typeOf(tree).getKind()));
            return super.visitBinary(tree, nothing);
        }

        @Override
        public Void visitCompoundAssignment(CompoundAssignmentTree tree, Void nothing) {
            Due.holds("rule 7: no division" + where(tree), tree.getKind() != Tree.Kind.DIVIDE_ASSIGNMENT
                && tree.getKind() != Tree.Kind.REMAINDER_ASSIGNMENT);
            Due.holds("rule 10: of numbers" + where(tree), NUMBERS.contains(typeOf(tree).getKind()));
            return super.visitCompoundAssignment(tree, nothing);
        }

        /** Whole numbers are divided by constants alone, floats only where share has looked for 0. */
        private void divisor(BinaryTree tree, ExpressionTree by) {
            if (typeOf(tree).getKind() == TypeKind.FLOAT) {
                Due.holds("rule 3: no NaN" + where(tree), method.equals("StringVotes.share"));
                return;
            }
            Element divisor = elementOf(by);
            Object value = divisor instanceof VariableElement ? ((VariableElement) divisor).getConstantValue() : null;
            Due.holds("rule 7: a divisor that is not 0" + where(tree), value instanceof Integer && (Integer) value > 0);
        }

        @Override
        public Void visitForLoop(ForLoopTree tree, Void nothing) {
            ExpressionTree bound = tree.getCondition();
            Due.holds("rule 9: a bound to be seen" + where(tree), bound instanceof BinaryTree);
            Due.is("rule 9: one step" + where(tree), tree.getUpdate().size(), 1);
            return super.visitForLoop(tree, nothing);
        }

        @Override
        public Void visitTypeCast(TypeCastTree tree, Void nothing) {
            Due.holds("rule 6: a cast of numbers" + where(tree), NUMBERS.contains(typeOf(tree).getKind()));
            return super.visitTypeCast(tree, nothing);
        }

        @Override
        public Void visitLiteral(LiteralTree tree, Void nothing) {
            Due.holds("rule 3: no text" + where(tree), !(tree.getValue() instanceof String));
            return super.visitLiteral(tree, nothing);
        }

        @Override
        public Void visitWhileLoop(WhileLoopTree tree, Void nothing) {
            never(9, "while, as its end is hard to see", tree);
            return null;
        }

        @Override
        public Void visitDoWhileLoop(DoWhileLoopTree tree, Void nothing) {
            never(9, "do, as its end is hard to see", tree);
            return null;
        }

        @Override
        public Void visitEnhancedForLoop(EnhancedForLoopTree tree, Void nothing) {
            never(12, "for over a list or an array", tree);
            return null;
        }

        @Override
        public Void visitThrow(ThrowTree tree, Void nothing) {
            never(6, "throw, as the document wants none", tree);
            return null;
        }

        @Override
        public Void visitTry(TryTree tree, Void nothing) {
            never(6, "try", tree);
            return null;
        }

        @Override
        public Void visitSynchronized(SynchronizedTree tree, Void nothing) {
            never(6, "synchronized", tree);
            return null;
        }

        @Override
        public Void visitAssert(AssertTree tree, Void nothing) {
            never(6, "assert", tree);
            return null;
        }

        @Override
        public Void visitInstanceOf(InstanceOfTree tree, Void nothing) {
            never(6, "instanceof", tree);
            return null;
        }

        @Override
        public Void visitLambdaExpression(LambdaExpressionTree tree, Void nothing) {
            never(2, "lambda", tree);
            return null;
        }

        @Override
        public Void visitMemberReference(MemberReferenceTree tree, Void nothing) {
            never(2, "method reference", tree);
            return null;
        }
    }
}
