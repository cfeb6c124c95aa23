import com.sun.source.tree.AssertTree;
import com.sun.source.tree.BinaryTree;
import com.sun.source.tree.ClassTree;
import com.sun.source.tree.CompoundAssignmentTree;
import com.sun.source.tree.DoWhileLoopTree;
import com.sun.source.tree.ExpressionTree;
import com.sun.source.tree.ForLoopTree;
import com.sun.source.tree.ImportTree;
import com.sun.source.tree.InstanceOfTree;
import com.sun.source.tree.LambdaExpressionTree;
import com.sun.source.tree.LiteralTree;
import com.sun.source.tree.MemberReferenceTree;
import com.sun.source.tree.MethodInvocationTree;
import com.sun.source.tree.MethodTree;
import com.sun.source.tree.NewArrayTree;
import com.sun.source.tree.NewClassTree;
import com.sun.source.tree.SynchronizedTree;
import com.sun.source.tree.ThrowTree;
import com.sun.source.tree.Tree;
import com.sun.source.tree.TryTree;
import com.sun.source.tree.TypeCastTree;
import com.sun.source.tree.VariableTree;
import com.sun.source.tree.WhileLoopTree;
import com.sun.source.util.TreePath;
import com.sun.source.util.TreePathScanner;
import java.io.IOException;
import java.nio.file.Files;
import java.nio.file.Path;
import java.util.HashSet;
import java.util.List;
import java.util.Set;
import javax.lang.model.element.Element;
import javax.lang.model.element.ElementKind;
import javax.lang.model.element.Modifier;
import javax.lang.model.element.VariableElement;

/** What javac's own reading of the source can tell of the thirteen rules of ../shared/LANGUAGE.md. */
public final class LanguageTest {
    private static final Path SOURCE = Path.of("src/main/java/MeanMan.java");
    private static final int LONGEST_METHOD = 60;
    private static final int DEEPEST_CALLS = 8;
    private static final int MOST_CLASSES = 12;
    private static final int MOST_FIELDS = 20;
    private static final int MOST_PARAMETERS = 7;
    private static final Set<String> LIBRARY = Set.of("String.length", "String.charAt", "Math.min", "Math.max", "Math.abs",
        "Math.floorMod", "Integer.compare", "Integer.bitCount", "System.arraycopy");
    private static final Set<String> EXCEPTIONS = Set.of("IllegalStateException", "IllegalArgumentException",
        "IndexOutOfBoundsException", "ArithmeticException", "UnsupportedOperationException", "NoSuchElementException",
        "RuntimeException");
    private static final Set<String> TYPES = Set.of("int", "boolean", "char", "int[]", "int[][]", "String");

    private static Source source;
    private static int wrong = 0;

    private static void need(boolean so, int rule, Tree at, String what) {
        if (!so) {
            wrong++;
            System.out.println("rule " + rule + ", line " + (at == null ? 0 : source.line(at)) + ", not so: " + what);
        }
    }

    private static String simple(String type) {
        return type.substring(type.lastIndexOf('.') + 1);
    }

    private static boolean isOwn(Element element) {
        for (Element e = element; e != null; e = e.getEnclosingElement()) {
            if (e.getKind() == ElementKind.CLASS && e.toString().equals("MeanMan")) {
                return true;
            }
        }
        return false;
    }

    /** The nearest method around a place; null in a field's first value. */
    private static MethodTree methodAround(TreePath path) {
        for (TreePath p = path; p != null; p = p.getParentPath()) {
            if (p.getLeaf() instanceof MethodTree m) {
                return m;
            }
        }
        return null;
    }

    private static boolean isConstructor(MethodTree method) {
        return method.getName().contentEquals("<init>");
    }

    /** Each visit holds one kind of thing against the rules that speak of it. */
    private static final class Rules extends TreePathScanner<Void, Void> {
        private final Set<String> ownTypes = new HashSet<>();
        private final Set<String> face = new HashSet<>();
        private int classes = 0;

        @Override
        public Void visitImport(ImportTree tree, Void none) {
            String name = tree.getQualifiedIdentifier().toString();
            need(name.equals("java.util.NoSuchElementException"), 4, tree, "nothing else is imported: " + name);
            return super.visitImport(tree, none);
        }

        @Override
        public Void visitClass(ClassTree tree, Void none) {
            Element element = source.meaning(getCurrentPath());
            boolean outermost = getCurrentPath().getParentPath().getLeaf() == source.unit;
            classes++;
            ownTypes.add(tree.getSimpleName().toString());
            Set<Modifier> modifiers = element.getModifiers();
            need(!outermost || modifiers.contains(Modifier.PUBLIC) && modifiers.contains(Modifier.FINAL), 1, tree,
                "the class is public and final");
            need(outermost || modifiers.contains(Modifier.STATIC) && !modifiers.contains(Modifier.PUBLIC)
                && !modifiers.contains(Modifier.PROTECTED), 1, tree, "a class inside is static and not seen outside");
            long fields = tree.getMembers().stream().filter(m -> m instanceof VariableTree v
                && !v.getModifiers().getFlags().contains(Modifier.STATIC)).count();
            need(fields <= MOST_FIELDS, 11, tree, "a class has at most twenty fields");
            need(tree.getMembers().stream().noneMatch(m -> m.getKind() == Tree.Kind.BLOCK), 5, tree, "there is no block");
            return super.visitClass(tree, none);
        }

        @Override
        public Void visitMethod(MethodTree tree, Void none) {
            need(source.lines(tree) <= LONGEST_METHOD, 11, tree, tree.getName() + " has at most sixty lines");
            need(tree.getParameters().size() <= MOST_PARAMETERS, 11, tree, tree.getName() + " takes at most seven");
            need(!tree.getModifiers().getFlags().contains(Modifier.PRIVATE) || !face.contains(tree.getName().toString()), 1,
                tree, "no private method bears the name of a public one: " + tree.getName());
            return super.visitMethod(tree, none);
        }

        @Override
        public Void visitVariable(VariableTree tree, Void none) {
            Element element = source.meaning(getCurrentPath());
            String type = simple(element.asType().toString());
            String part = type.endsWith("[]") ? type.substring(0, type.length() - 2) : type;
            need(TYPES.contains(type) || ownTypes.contains(part), 3, tree, "the type is one of the language: " + type);
            if (element.getKind() == ElementKind.FIELD && element.getModifiers().contains(Modifier.STATIC)) {
                need(((VariableElement) element).getConstantValue() != null, 5, tree, tree.getName() + " is a constant");
            }
            if (methodAround(getCurrentPath()) == null) {
                boolean seen = !element.getModifiers().contains(Modifier.PRIVATE)
                    && element.getEnclosingElement().toString().equals("MeanMan");
                need(!seen || tree.getName().contentEquals("NONE"), 1, tree, tree.getName() + " is private");
            }
            return super.visitVariable(tree, none);
        }

        @Override
        public Void visitMethodInvocation(MethodInvocationTree tree, Void none) {
            Element called = source.meaning(getCurrentPath());
            String name = simple(called.getEnclosingElement().toString()) + "." + called.getSimpleName();
            boolean above = called.getKind() == ElementKind.CONSTRUCTOR;
            need(isOwn(called) || above || LIBRARY.contains(name), 4, tree, "the library has that: " + name);
            MethodTree around = methodAround(getCurrentPath());
            need(above || around == null || !isConstructor(around), 12, tree, "a constructor calls no method: " + name);
            return super.visitMethodInvocation(tree, none);
        }

        @Override
        public Void visitNewClass(NewClassTree tree, Void none) {
            String name = simple(tree.getIdentifier().toString());
            boolean thrown = getCurrentPath().getParentPath().getLeaf() instanceof ThrowTree;
            MethodTree around = methodAround(getCurrentPath());
            need(tree.getClassBody() == null, 2, tree, "there is no anonymous class");
            need(thrown || ownTypes.contains(name), 4, tree, "only own objects are made: " + name);
            need(thrown || around == null || isConstructor(around), 12, tree, "all is made ahead of the first call: " + name);
            return super.visitNewClass(tree, none);
        }

        @Override
        public Void visitNewArray(NewArrayTree tree, Void none) {
            MethodTree around = methodAround(getCurrentPath());
            need(around == null || isConstructor(around), 12, tree, "all rows are made ahead of the first call");
            return super.visitNewArray(tree, none);
        }

        @Override
        public Void visitThrow(ThrowTree tree, Void none) {
            boolean plain = tree.getExpression() instanceof NewClassTree n
                && EXCEPTIONS.contains(n.getIdentifier().toString())
                && (n.getArguments().isEmpty() || n.getArguments().get(0).getKind() == Tree.Kind.STRING_LITERAL);
            need(plain, 6, tree, "what is thrown is one of the seven, with a written text");
            MethodTree around = methodAround(getCurrentPath());
            need(around != null && !isConstructor(around), 6, tree, "no constructor throws");
            return super.visitThrow(tree, none);
        }

        @Override
        public Void visitLiteral(LiteralTree tree, Void none) {
            boolean plain = !(tree.getValue() instanceof String s) || s.chars().allMatch(c -> c >= 1 && c <= 127);
            need(plain, 4, tree, "the signs of a text are 1 to 127");
            need(tree.getKind() != Tree.Kind.NULL_LITERAL, 7, tree, "nothing is ever null");
            return super.visitLiteral(tree, none);
        }

        @Override
        public Void visitBinary(BinaryTree tree, Void none) {
            need(!simple(source.type(getCurrentPath())).equals("String"), 10, tree, "texts are not joined by +");
            if (tree.getKind() == Tree.Kind.DIVIDE || tree.getKind() == Tree.Kind.REMAINDER) {
                dividesSafely(tree, tree.getRightOperand());
            }
            return super.visitBinary(tree, none);
        }

        @Override
        public Void visitCompoundAssignment(CompoundAssignmentTree tree, Void none) {
            need(!simple(source.type(getCurrentPath())).equals("String"), 10, tree, "texts are not joined by +=");
            need(tree.getKind() != Tree.Kind.DIVIDE_ASSIGNMENT && tree.getKind() != Tree.Kind.REMAINDER_ASSIGNMENT, 7, tree,
                "division stands by itself");
            return super.visitCompoundAssignment(tree, none);
        }

        /** A divisor is a constant other than 0, or is held against 0 in the same method. */
        private void dividesSafely(Tree at, ExpressionTree divisor) {
            Element constant = source.meaning(new TreePath(getCurrentPath(), divisor));
            boolean fixed = divisor instanceof LiteralTree l && !l.getValue().equals(0)
                || constant instanceof VariableElement v && v.getConstantValue() != null && !v.getConstantValue().equals(0);
            String method = String.valueOf(methodAround(getCurrentPath()));
            need(fixed || method.contains(divisor + " == 0") || method.contains(divisor + " > 0"), 7, at,
                "a divisor is looked at: " + divisor);
        }

        private void ends(Tree at, ExpressionTree condition) {
            boolean seen = condition != null && condition.toString().matches("(?s).*(<|>).*");
            need(seen, 9, at, "the end of a loop can be seen");
        }

        @Override
        public Void visitWhileLoop(WhileLoopTree tree, Void none) {
            ends(tree, tree.getCondition());
            return super.visitWhileLoop(tree, none);
        }

        @Override
        public Void visitDoWhileLoop(DoWhileLoopTree tree, Void none) {
            ends(tree, tree.getCondition());
            return super.visitDoWhileLoop(tree, none);
        }

        @Override
        public Void visitForLoop(ForLoopTree tree, Void none) {
            ends(tree, tree.getCondition());
            need(tree.getUpdate().size() == 1, 9, tree, "a for loop counts");
            return super.visitForLoop(tree, none);
        }

        // What the class does without: to use one of these, look at its rule first.

        @Override
        public Void visitLambdaExpression(LambdaExpressionTree tree, Void none) {
            need(false, 2, tree, "there is no lambda");
            return null;
        }

        @Override
        public Void visitMemberReference(MemberReferenceTree tree, Void none) {
            need(false, 2, tree, "there is no method reference");
            return null;
        }

        @Override
        public Void visitTry(TryTree tree, Void none) {
            need(false, 6, tree, "there is no try");
            return null;
        }

        @Override
        public Void visitSynchronized(SynchronizedTree tree, Void none) {
            need(false, 6, tree, "there is no synchronized");
            return null;
        }

        @Override
        public Void visitAssert(AssertTree tree, Void none) {
            need(false, 6, tree, "there is no assert");
            return null;
        }

        @Override
        public Void visitTypeCast(TypeCastTree tree, Void none) {
            need(false, 6, tree, "there is no cast");
            return null;
        }

        @Override
        public Void visitInstanceOf(InstanceOfTree tree, Void none) {
            need(false, 6, tree, "there is no instanceof");
            return null;
        }
    }

    private static void namesOf(Rules rules) {
        for (Element method : source.methods()) {
            rules.ownTypes.add(method.getEnclosingElement().getSimpleName().toString());
            if (method.getKind() == ElementKind.METHOD && method.getModifiers().contains(Modifier.PUBLIC)) {
                rules.face.add(method.getSimpleName().toString());
            }
        }
    }

    /** Calls go at most eight deep, and what calls itself carries its depth. */
    private static void calls() {
        for (Element method : source.methods()) {
            Tree tree = source.trees.getTree(method);
            List<Element> chain = source.longestChain(method);
            need(chain.size() <= DEEPEST_CALLS, 11, tree, "calls go at most eight deep: " + chain);
            need(!source.isRecursive(method) || method.toString().contains("(int") && tree.toString().contains("int depth"), 8,
                tree, method + " carries its depth");
        }
    }

    public static void main(String[] args) throws IOException {
        String text = Files.readString(SOURCE);
        source = Source.read(SOURCE);
        Rules rules = new Rules();
        namesOf(rules);
        rules.scan(source.unit, null);
        calls();
        need(source.unit.getPackage() == null, 1, source.unit, "there is no package");
        need(source.unit.getTypeDecls().size() == 1, 1, source.unit, "there is one class with all others inside");
        need(rules.classes <= MOST_CLASSES, 11, source.unit, "there are at most twelve classes");
        need(text.chars().allMatch(c -> c == '\n' || c >= 32 && c < 127), 4, source.unit, "the source has plain signs alone");
        System.out.println(wrong == 0 ? "the source keeps to the language" : wrong + " things are not in the language");
        if (wrong != 0) {
            System.exit(1);
        }
    }
}
