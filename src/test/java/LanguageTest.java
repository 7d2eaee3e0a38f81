import com.sun.source.tree.*;
import com.sun.source.util.JavacTask;
import com.sun.source.util.SourcePositions;
import com.sun.source.util.TreePathScanner;
import com.sun.source.util.Trees;
import java.nio.file.Files;
import java.nio.file.Path;
import java.util.HashMap;
import java.util.HashSet;
import java.util.List;
import java.util.Map;
import java.util.Set;
import java.util.TreeSet;
import javax.lang.model.element.Element;
import javax.lang.model.element.ElementKind;
import javax.lang.model.element.ExecutableElement;
import javax.lang.model.element.Modifier;
import javax.lang.model.element.TypeElement;
import javax.lang.model.type.ArrayType;
import javax.lang.model.type.DeclaredType;
import javax.lang.model.type.TypeKind;
import javax.lang.model.type.TypeMirror;
import javax.tools.JavaCompiler;
import javax.tools.JavaFileObject;
import javax.tools.StandardJavaFileManager;
import javax.tools.ToolProvider;

/** The rules of LANGUAGE.md, and the document's face, as far as they can be seen in the source. */
public final class LanguageTest {
    private static final Path SOURCE = Path.of("src/main/java/CloudDeeds.java");
    private static final Path DOCUMENT = Path.of("../shared/DOC.md");
    private static final Set<String> LIBRARY = Set.of("String.length()", "String.charAt(int)", "String.isEmpty()",
        "String.equals(java.lang.Object)", "String.indexOf(int)", "String.substring(int)", "String.substring(int,int)",
        "String.toCharArray()", "StringBuilder.append(char)", "StringBuilder.append(java.lang.String)",
        "StringBuilder.append(int)", "StringBuilder.charAt(int)", "StringBuilder.setCharAt(int,char)",
        "StringBuilder.setLength(int)", "StringBuilder.deleteCharAt(int)", "StringBuilder.reverse()",
        "StringBuilder.length()", "StringBuilder.toString()", "Iterator.next()", "Iterator.hasNext()",
        "Iterable.iterator()", "System.arraycopy(java.lang.Object,int,java.lang.Object,int,int)");
    private static final Set<String> LISTS = Set.of("add", "get", "set", "remove", "size", "isEmpty", "clear", "of");
    private static final Set<String> COPIES = Set.of("copyOf", "copyOfRange", "fill", "clone");
    private static final Set<String> NEW = Set.of("String", "StringBuilder", "ArrayList");
    private static final Set<String> TYPES = Set.of("String", "StringBuilder", "Integer", "ArrayList", "List", "Iterator",
        "Iterable", "Comparable");
    private static final Set<String> IMPORTS = Set.of("java.util.NoSuchElementException", "java.util.ArrayList",
        "java.util.List", "java.util.Arrays", "java.util.Iterator");
    private static final Set<String> EXCEPTIONS = Set.of("IllegalStateException", "IllegalArgumentException",
        "IndexOutOfBoundsException", "ArithmeticException", "UnsupportedOperationException", "NoSuchElementException",
        "RuntimeException");
    private static final Set<String> KEPT = Set.of("int", "long", "boolean", "char", "java.lang.String", "int[]", "long[]",
        "char[]", "byte[]");
    private static final Set<String> OF_ENUM = Set.of("int", "long", "boolean", "java.lang.String");
    private static final Set<String> CAUGHT = Set.of("IllegalStateException", "IllegalArgumentException",
        "UnsupportedOperationException", "NoSuchElementException");
    private static final Due due = new Due();

    public static void main(String[] args) throws Exception {
        face();
        JavaCompiler compiler = ToolProvider.getSystemJavaCompiler();
        try (StandardJavaFileManager files = compiler.getStandardFileManager(null, null, null)) {
            Iterable<? extends JavaFileObject> sources = files.getJavaFileObjects(SOURCE);
            JavacTask task = (JavacTask) compiler.getTask(null, files, null, List.of("-proc:none"), null, sources);
            CompilationUnitTree unit = task.parse().iterator().next();
            task.analyze();
            due.holds("no package", unit.getPackage() == null);
            due.equal("classes of the file", unit.getTypeDecls().size(), 1);
            Rules rules = new Rules(Trees.instance(task), unit);
            rules.scan(unit, null);
            rules.end();
        }
        due.end();
    }

    /** The public members are those of the document's face, and no other member can be seen from outside. */
    private static void face() throws Exception {
        Set<String> want = new TreeSet<>();
        boolean isFace = false;
        for (String line : Files.readAllLines(DOCUMENT)) {
            isFace = line.startsWith("public final class") || isFace && !line.startsWith("```");
            if (isFace && line.startsWith("    public ")) {
                String types = line.strip().replace(";", "").replaceAll(" [a-z][A-Za-z]*(?=[,)])", "");
                want.add(types.replace("public ", "").replace(" ", ""));
            }
        }
        due.equal("members of the face", want.size(), 38);
        Set<String> got = new TreeSet<>();
        for (java.lang.reflect.Method method : CloudDeeds.class.getDeclaredMethods()) {
            if (java.lang.reflect.Modifier.isPublic(method.getModifiers())) {
                got.add(method.getReturnType() + method.getName() + types(method.getParameterTypes())
                    + thrown(method.getExceptionTypes()));
            }
        }
        for (java.lang.reflect.Constructor<?> made : CloudDeeds.class.getConstructors()) {
            got.add(made.getName() + types(made.getParameterTypes()));
        }
        due.equal("the face", got.toString(), want.toString());
    }

    private static String types(Class<?>[] types) {
        StringBuilder text = new StringBuilder("(");
        for (Class<?> type : types) {
            text.append(text.length() == 1 ? "" : ",").append(type);
        }
        return text.append(")").toString();
    }

    private static String thrown(Class<?>[] types) {
        StringBuilder text = new StringBuilder();
        for (Class<?> type : types) {
            text.append(text.length() == 0 ? "throws" : ",").append(type.getSimpleName());
        }
        return text.toString();
    }

    private static final class Rules extends TreePathScanner<Void, Void> {
        private final Trees trees;
        private final CompilationUnitTree unit;
        private final SourcePositions positions;
        private final Map<Element, Set<Element>> calls = new HashMap<>();
        private final Set<Element> trying = new HashSet<>();
        private final Set<Element> throwers = new HashSet<>();
        private ExecutableElement method = null;
        private int classes = 0;
        private int throwing = 0;

        Rules(Trees trees, CompilationUnitTree unit) {
            this.trees = trees;
            this.unit = unit;
            this.positions = trees.getSourcePositions();
        }

        private void refuse(Tree tree, String rule) {
            due.holds("line " + line(positions.getStartPosition(unit, tree)) + ": " + rule, false);
        }

        private void demand(Tree tree, boolean holds, String rule) {
            if (!holds) {
                refuse(tree, rule);
            }
        }

        private long line(long position) {
            return unit.getLineMap().getLineNumber(position);
        }

        private Element here() {
            return trees.getElement(getCurrentPath());
        }

        private boolean isOwn(Element element) {
            for (Element e = element; e != null; e = e.getEnclosingElement()) {
                if (e.getKind() == ElementKind.CLASS && e.getSimpleName().contentEquals("CloudDeeds")) {
                    return true;
                }
            }
            return false;
        }

        @Override
        public Void visitClass(ClassTree tree, Void none) {
            classes++;
            int fields = 0;
            Element own = here();
            Set<Modifier> modifiers = own.getModifiers();
            boolean isFace = own.getSimpleName().contentEquals("CloudDeeds");
            demand(tree, modifiers.contains(Modifier.PUBLIC) == isFace, "rule 1, the modifiers of a class");
            demand(tree, !isFace || modifiers.contains(Modifier.FINAL), "rule 1, the face is not final");
            for (Element member : own.getEnclosedElements()) {
                boolean isStatic = member.getModifiers().contains(Modifier.STATIC);
                boolean isSeen = !member.getModifiers().contains(Modifier.PRIVATE)
                    && !member.getModifiers().contains(Modifier.PUBLIC);
                if (member.getKind() == ElementKind.FIELD) {
                    fields += isStatic ? 0 : 1;
                    demand(tree, !isStatic || isConstant(member), "rule 5, " + member);
                    demand(tree, isStatic || own.getKind() != ElementKind.ENUM || OF_ENUM.contains("" + member.asType()),
                        "rule 2, a field of an enum: " + member);
                    demand(tree, !isFace || member.getModifiers().contains(Modifier.PRIVATE), "rule 1, " + member);
                }
                demand(tree, member.getKind() != ElementKind.STATIC_INIT, "rule 5, a static block");
                demand(tree, !isFace || !isSeen || member.getKind().isClass() || member.getKind().isInterface(),
                    "rule 1, neither private nor public: " + member);
            }
            demand(tree, fields <= 24, "rule 11, too many fields");
            return super.visitClass(tree, none);
        }

        private boolean isConstant(Element field) {
            TypeMirror type = field.asType();
            boolean isOfEnum = type.getKind() == TypeKind.ARRAY && isEnum(((ArrayType) type).getComponentType());
            return field.getModifiers().contains(Modifier.FINAL) && (isOfEnum || KEPT.contains("" + type));
        }

        private static boolean isEnum(TypeMirror type) {
            return type.getKind() == TypeKind.DECLARED
                && ((DeclaredType) type).asElement().getKind() == ElementKind.ENUM;
        }

        @Override
        public Void visitVariable(VariableTree tree, Void none) {
            Element variable = here();
            boolean isCaught = variable.getKind() == ElementKind.EXCEPTION_PARAMETER;
            demand(tree, isCaught || isOfLanguage(variable.asType()), "rule 3, " + variable.asType());
            return super.visitVariable(tree, none);
        }

        private boolean isOfLanguage(TypeMirror type) {
            if (type.getKind() == TypeKind.ARRAY) {
                TypeMirror of = ((ArrayType) type).getComponentType();
                boolean isOfRows = of.getKind() == TypeKind.ARRAY;
                TypeMirror inRows = isOfRows ? ((ArrayType) of).getComponentType() : of;
                return inRows.getKind().isPrimitive() ? !isOfRows || inRows.getKind() != TypeKind.BOOLEAN
                    : !isOfRows && isOwn(inRows);
            }
            if (type.getKind() != TypeKind.DECLARED) {
                return type.getKind().isPrimitive() || type.getKind() == TypeKind.TYPEVAR
                    || type.getKind() == TypeKind.VOID;
            }
            DeclaredType declared = (DeclaredType) type;
            for (TypeMirror argument : declared.getTypeArguments()) {
                if (!isOwn(argument) && !argument.toString().equals("java.lang.Integer")) {
                    return false;
                }
            }
            return isOwn(type) || TYPES.contains("" + declared.asElement().getSimpleName());
        }

        private boolean isOwn(TypeMirror type) {
            return type.getKind() == TypeKind.TYPEVAR
                || type.getKind() == TypeKind.DECLARED && isOwn(((DeclaredType) type).asElement());
        }

        @Override
        public Void visitMethod(MethodTree tree, Void none) {
            ExecutableElement outer = method;
            method = (ExecutableElement) here();
            calls.computeIfAbsent(method, m -> new HashSet<>());
            long lines = line(positions.getEndPosition(unit, tree)) - line(positions.getStartPosition(unit, tree)) + 1;
            demand(tree, lines <= 70, "rule 11, a long method");
            demand(tree, tree.getParameters().size() <= 7, "rule 11, too many parameters");
            demand(tree, !Set.of("equals", "hashCode", "toString").contains("" + tree.getName()), "rule 6, a name");
            demand(tree, method.getKind() == ElementKind.CONSTRUCTOR || isOfLanguage(method.getReturnType()),
                "rule 3, " + method.getReturnType());
            super.visitMethod(tree, none);
            method = outer;
            return null;
        }

        @Override
        public Void visitMethodInvocation(MethodInvocationTree tree, Void none) {
            Element called = here();
            TypeElement owner = (TypeElement) called.getEnclosingElement();
            if (isOwn(owner) && method != null) {
                calls.get(method).add(called);
            }
            boolean isOfEnum = owner.getKind() == ElementKind.ENUM || "super".equals("" + tree.getMethodSelect());
            demand(tree, isOwn(owner) || isOfEnum || isOfLibrary(owner, (ExecutableElement) called),
                "rule 4, " + owner.getSimpleName() + "." + called);
            return super.visitMethodInvocation(tree, none);
        }

        private static boolean isOfLibrary(TypeElement owner, ExecutableElement called) {
            String name = "" + called.getSimpleName();
            // A StringBuilder has some of its methods from a class that is not public.
            String type = ("" + owner.getSimpleName()).replace("AbstractStringBuilder", "StringBuilder");
            switch (type) {
                case "Integer": case "Long": case "Math":
                    return isOfWholeNumbers(called) && !name.endsWith("Exact");
                case "ArrayList": case "List": case "Collection":
                    return LISTS.contains(name);
                case "Arrays": case "Array": case "Object":
                    return COPIES.contains(name);
                default:
                    return LIBRARY.contains(type + "." + called);
            }
        }

        private static boolean isOfWholeNumbers(ExecutableElement called) {
            boolean isWhole = called.getModifiers().contains(Modifier.STATIC) && isWhole(called.getReturnType());
            for (javax.lang.model.element.VariableElement given : called.getParameters()) {
                isWhole &= isWhole(given.asType());
            }
            return isWhole;
        }

        private static boolean isWhole(TypeMirror type) {
            return type.getKind() == TypeKind.INT || type.getKind() == TypeKind.LONG;
        }

        @Override
        public Void visitNewClass(NewClassTree tree, Void none) {
            TypeElement made = (TypeElement) here().getEnclosingElement();
            demand(tree, throwing > 0 || isOwn(made) || NEW.contains("" + made.getSimpleName()), "rule 4, new " + made);
            return super.visitNewClass(tree, none);
        }

        @Override
        public Void visitLiteral(LiteralTree tree, Void none) {
            String signs = tree.getValue() instanceof String || tree.getValue() instanceof Character
                ? "" + tree.getValue() : "";
            demand(tree, signs.chars().allMatch(c -> c < 128), "rule 4, a sign of a constant");
            return super.visitLiteral(tree, none);
        }

        @Override
        public Void visitThrow(ThrowTree tree, Void none) {
            boolean isNew = tree.getExpression() instanceof NewClassTree;
            demand(tree, isNew, "rule 6, a throw of what is not new");
            demand(tree, method.getKind() != ElementKind.CONSTRUCTOR, "rule 6, a throw in a constructor");
            if (isNew) {
                NewClassTree made = (NewClassTree) tree.getExpression();
                demand(tree, EXCEPTIONS.contains("" + made.getIdentifier()), "rule 6, " + made.getIdentifier());
                demand(tree, made.getArguments().isEmpty() || made.getArguments().size() == 1
                    && made.getArguments().get(0) instanceof LiteralTree, "rule 6, a text that is not written");
            }
            throwers.add(method);
            throwing++;
            super.visitThrow(tree, none);
            throwing--;
            return null;
        }

        @Override
        public Void visitBinary(BinaryTree tree, Void none) {
            demand(tree, tree.getKind() != Tree.Kind.PLUS || !isText(), "rule 10, a text joined by +");
            boolean isSame = tree.getKind() == Tree.Kind.EQUAL_TO || tree.getKind() == Tree.Kind.NOT_EQUAL_TO;
            if (isSame) {
                TypeMirror left = trees.getTypeMirror(new com.sun.source.util.TreePath(getCurrentPath(),
                    tree.getLeftOperand()));
                demand(tree, left.getKind() != TypeKind.DECLARED || !left.toString().equals("java.lang.String"),
                    "rule 6, texts compared by ==");
            }
            return super.visitBinary(tree, none);
        }

        @Override
        public Void visitCompoundAssignment(CompoundAssignmentTree tree, Void none) {
            demand(tree, !isText(), "rule 10, a text joined by +=");
            return super.visitCompoundAssignment(tree, none);
        }

        private boolean isText() {
            return trees.getTypeMirror(getCurrentPath()).toString().equals("java.lang.String");
        }

        @Override
        public Void visitLambdaExpression(LambdaExpressionTree tree, Void none) {
            refuse(tree, "rule 2, a lambda");
            return super.visitLambdaExpression(tree, none);
        }

        @Override
        public Void visitMemberReference(MemberReferenceTree tree, Void none) {
            refuse(tree, "rule 2, a method reference");
            return super.visitMemberReference(tree, none);
        }

        @Override
        public Void visitTry(TryTree tree, Void none) {
            demand(tree, tree.getFinallyBlock() == null && tree.getResources().isEmpty(), "rule 6, more than a catch");
            trying.add(method);
            for (CatchTree caught : tree.getCatches()) {
                String name = "" + caught.getParameter().getType();
                demand(caught, CAUGHT.contains(name), "a catch of what the machine may throw: " + name);
            }
            return super.visitTry(tree, none);
        }

        @Override
        public Void visitAssert(AssertTree tree, Void none) {
            refuse(tree, "rule 6, an assert");
            return super.visitAssert(tree, none);
        }

        @Override
        public Void visitSynchronized(SynchronizedTree tree, Void none) {
            refuse(tree, "rule 6, synchronized");
            return super.visitSynchronized(tree, none);
        }

        @Override
        public Void visitImport(ImportTree tree, Void none) {
            String name = "" + tree.getQualifiedIdentifier();
            demand(tree, IMPORTS.contains(name), "rule 4, " + name);
            return super.visitImport(tree, none);
        }

        /** How deep the calls go that are no recursion. */
        private int depth(Element element, Set<Element> open) {
            open.add(element);
            int deepest = 0;
            for (Element called : calls.getOrDefault(element, Set.of())) {
                if (!open.contains(called)) {
                    deepest = Math.max(deepest, depth(called, open));
                }
            }
            open.remove(element);
            return deepest + (reaches(element, element, new HashSet<>()) ? 0 : 1);
        }

        private boolean reaches(Element from, Element to, Set<Element> seen) {
            for (Element called : calls.getOrDefault(from, Set.of())) {
                if (called.equals(to) || seen.add(called) && reaches(called, to, seen)) {
                    return true;
                }
            }
            return false;
        }

        void end() {
            due.holds("rule 11, some twelve classes: " + classes, classes <= 14);
            Set<String> publicNames = new TreeSet<>();
            for (Element element : calls.keySet()) {
                int depth = depth(element, new HashSet<>());
                due.holds("rule 6, a throw and a try in " + element,
                    !trying.contains(element) || !throwers.contains(element));
                due.holds("rule 11, calls " + depth + " deep from " + element, depth <= 8);
                if (element.getModifiers().contains(Modifier.PUBLIC)) {
                    publicNames.add("" + element.getSimpleName());
                }
            }
            for (Element element : calls.keySet()) {
                due.holds("rule 1, a private method with a public name: " + element,
                    element.getKind() == ElementKind.CONSTRUCTOR || element.getModifiers().contains(Modifier.PUBLIC)
                    || !publicNames.contains("" + element.getSimpleName()));
            }
        }
    }
}
