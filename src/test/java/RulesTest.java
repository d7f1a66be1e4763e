import com.sun.source.tree.BinaryTree;
import com.sun.source.tree.BlockTree;
import com.sun.source.tree.ClassTree;
import com.sun.source.tree.ExpressionTree;
import com.sun.source.tree.ForLoopTree;
import com.sun.source.tree.LiteralTree;
import com.sun.source.tree.MethodInvocationTree;
import com.sun.source.tree.MethodTree;
import com.sun.source.tree.NewArrayTree;
import com.sun.source.tree.NewClassTree;
import com.sun.source.tree.ThrowTree;
import com.sun.source.tree.Tree;
import com.sun.source.tree.TypeCastTree;
import com.sun.source.tree.VariableTree;
import com.sun.source.util.TreePathScanner;
import java.io.IOException;
import java.nio.file.Files;
import java.nio.file.Path;
import java.util.EnumSet;
import java.util.Set;
import java.util.TreeSet;
import javax.lang.model.element.Element;
import javax.lang.model.element.Modifier;

/** The class keeps to LANGUAGE.md, as far as that can be seen in its text. */
public final class RulesTest extends TreePathScanner<Void, Void> {
    private static final Path DOCUMENT = Path.of("../shared/DOC.md");
    private static final String MAIN = "src/main/java/StreamDesk.java";

    private static final String TYPES = "void|((int|long|short|byte|char|boolean|double|float|StreamDesk(\\.\\w+)?)(\\[\\])?)"
            + "|java\\.lang\\.(String|StringBuilder)";
    private static final String CONSTANTS = "int|long|boolean|char|java\\.lang\\.String|(int|long|char|byte)\\[\\]";
    private static final String LIBRARY = "java\\.lang\\.String\\.(length|charAt|isEmpty|equals|indexOf|substring|toCharArray)"
            + "|java\\.lang\\.StringBuilder\\.(append|charAt|setCharAt|setLength|deleteCharAt|reverse|length|toString)"
            + "|java\\.lang\\.(Integer|Long|Math)\\.(compare|max|min|abs|bitCount|floorDiv|floorMod)|java\\.lang\\.System\\.arraycopy"
            + "|java\\.util\\.Arrays\\.(copyOf|copyOfRange|fill)|java\\.lang\\.Object\\.<init>";
    private static final String EXCEPTIONS = "(IllegalState|IllegalArgument|IndexOutOfBounds|Arithmetic|UnsupportedOperation"
            + "|NoSuchElement|Runtime)Exception";

    /** What the rules forbid, and what the class does without: any try, and loops that show no end. */
    private static final Set<Tree.Kind> FORBIDDEN = EnumSet.of(Tree.Kind.LAMBDA_EXPRESSION, Tree.Kind.MEMBER_REFERENCE,
            Tree.Kind.SYNCHRONIZED, Tree.Kind.ASSERT, Tree.Kind.TRY, Tree.Kind.WHILE_LOOP, Tree.Kind.DO_WHILE_LOOP,
            Tree.Kind.ANNOTATION, Tree.Kind.IMPORT, Tree.Kind.PACKAGE, Tree.Kind.INSTANCE_OF, Tree.Kind.MODULE);

    private static final int PROMISES = 29;
    private static final int MOST_PARAMETERS = 7;
    private static final int MOST_LINES = 60;
    private static final int MOST_CALLS = 8;
    private static final int MOST_CLASSES = 12;
    private static final int MOST_FIELDS = 20;

    private final Source source;
    private final Set<String> face = new TreeSet<>();
    private int classes;

    private RulesTest(Source source) {
        this.source = source;
    }

    public static void main(String[] args) throws IOException {
        RulesTest test = new RulesTest(new Source(MAIN));
        test.scan(test.source.unit, null);
        test.rule("11: its classes are " + test.classes, test.classes <= MOST_CLASSES, test.source.unit);
        test.face();
        test.calls();
        Due.end();
    }

    private void rule(String text, boolean holds, Tree at) {
        Due.yes("rule " + text + ", line " + source.lineOf(at), holds);
    }

    /** Rule 1: the face is the one of the document, and no private method bears a name of it. */
    private void face() throws IOException {
        Set<String> due = new TreeSet<>();
        Set<String> names = new TreeSet<>();
        for (String line : Files.readAllLines(DOCUMENT)) {
            if (line.startsWith("    public ") && line.endsWith(";")) {
                String method = line.substring("    public ".length(), line.length() - 1);
                due.add(method);
                names.add(method.replaceAll("\\(.*", "").replaceAll(".* ", ""));
            }
        }
        Due.yes("rule 1: the face is " + face + ", due is " + due, due.size() == PROMISES && face.equals(due));
        for (Element method : source.methods()) {
            if (method.getModifiers().contains(Modifier.PRIVATE)) {
                Due.no("rule 1: a private method bears the name " + method, names.contains(method.getSimpleName().toString()));
            }
        }
    }

    /** Rules 8 and 11: a recursion carries its depth, and other calls go at most eight deep. */
    private void calls() {
        for (Element method : source.methods()) {
            Due.yes("rule 11: calls go deeper than eight: " + source.longestFrom(method),
                    source.longestFrom(method).size() <= MOST_CALLS);
            if (!source.recursionOf(method).isEmpty()) {
                Due.yes("rule 8: a recursion without a depth: " + method, carriesDepth(method));
            }
        }
    }

    private static boolean carriesDepth(Element method) {
        return ((javax.lang.model.element.ExecutableElement) method).getParameters().stream()
                .anyMatch(p -> p.getSimpleName().contentEquals("depth"));
    }

    @Override
    public Void scan(Tree tree, Void nothing) {
        if (tree != null) {
            rule("forbids " + tree.getKind(), !FORBIDDEN.contains(tree.getKind()), tree);
        }
        return super.scan(tree, nothing);
    }

    @Override
    public Void visitClass(ClassTree type, Void nothing) {
        classes++;
        Set<Modifier> modifiers = type.getModifiers().getFlags();
        if (getCurrentPath().getParentPath().getLeaf() == source.unit) {
            rule("1: the class is public and final", modifiers.equals(Set.of(Modifier.PUBLIC, Modifier.FINAL)), type);
        } else {
            rule("2: a class inside is private and static", modifiers.contains(Modifier.PRIVATE)
                    && modifiers.contains(Modifier.STATIC), type);
        }
        int fields = 0;
        for (Tree member : type.getMembers()) {
            boolean isField = member instanceof VariableTree;
            fields += isField && !((VariableTree) member).getModifiers().getFlags().contains(Modifier.STATIC) ? 1 : 0;
            rule("5: no initialiser block", !(member instanceof BlockTree), member);
        }
        rule("11: a class has " + fields + " fields", fields <= MOST_FIELDS, type);
        return super.visitClass(type, nothing);
    }

    @Override
    public Void visitMethod(MethodTree method, Void nothing) {
        Element element = source.elementOf(getCurrentPath());
        boolean isOfFace = element.getEnclosingElement().getSimpleName().contentEquals("StreamDesk");
        Set<Modifier> modifiers = method.getModifiers().getFlags();
        if (isOfFace && modifiers.contains(Modifier.PUBLIC)) {
            face.add(headOf(method));
        }
        rule("1: a member of the face is public or private", !isOfFace || modifiers.contains(Modifier.PUBLIC)
                || modifiers.contains(Modifier.PRIVATE), method);
        rule("11: parameters", method.getParameters().size() <= MOST_PARAMETERS, method);
        rule("11: lines", source.lastLineOf(method) - source.lineOf(method) < MOST_LINES, method);
        return super.visitMethod(method, nothing);
    }

    /** A method as the document writes it. */
    private static String headOf(MethodTree method) {
        StringBuilder head = new StringBuilder();
        if (method.getReturnType() == null) {
            head.append("StreamDesk");
        } else {
            head.append(method.getReturnType()).append(' ').append(method.getName());
        }
        String parameters = method.getParameters().toString().replace(",", ", ").replace(",  ", ", ");
        head.append('(').append(parameters).append(')');
        String separator = " throws ";
        for (ExpressionTree thrown : method.getThrows()) {
            head.append(separator).append(thrown);
            separator = ", ";
        }
        return head.toString();
    }

    @Override
    public Void visitVariable(VariableTree variable, Void nothing) {
        Element element = source.elementOf(getCurrentPath());
        Set<Modifier> modifiers = element.getModifiers();
        String type = element.asType().toString();
        rule("3: the type " + type, type.matches(TYPES), variable);
        if (element.getKind().isField()) {
            rule("1: a field is private", modifiers.contains(Modifier.PRIVATE), variable);
            rule("5: a static field is a constant", !modifiers.contains(Modifier.STATIC)
                    || modifiers.contains(Modifier.FINAL) && type.matches(CONSTANTS), variable);
        }
        return super.visitVariable(variable, nothing);
    }

    @Override
    public Void visitMethodInvocation(MethodInvocationTree call, Void nothing) {
        Element method = source.elementOf(getCurrentPath());
        String owner = method.getEnclosingElement().toString();
        String name = owner + "." + method.getSimpleName();
        rule("4: the library's " + name, owner.matches("StreamDesk(\\.\\w+)?") || name.matches(LIBRARY), call);
        return super.visitMethodInvocation(call, nothing);
    }

    @Override
    public Void visitThrow(ThrowTree thrown, Void nothing) {
        MethodTree around = Source.methodAround(getCurrentPath());
        rule("6: no throw in a constructor", around != null && around.getReturnType() != null, thrown);
        boolean isPlain = thrown.getExpression() instanceof NewClassTree made && made.getIdentifier().toString().matches(EXCEPTIONS)
                && (made.getArguments().isEmpty() || made.getArguments().get(0) instanceof LiteralTree);
        rule("6: what is thrown is a new exception of the list", isPlain, thrown);
        return super.visitThrow(thrown, nothing);
    }

    @Override
    public Void visitNewClass(NewClassTree made, Void nothing) {
        rule("2: no anonymous class", made.getClassBody() == null, made);
        boolean isThrown = getCurrentPath().getParentPath().getLeaf() instanceof ThrowTree;
        rule("12: objects are made in constructors", isThrown || isInConstructor(), made);
        return super.visitNewClass(made, nothing);
    }

    @Override
    public Void visitNewArray(NewArrayTree made, Void nothing) {
        rule("12: arrays are made in constructors", isInConstructor(), made);
        return super.visitNewArray(made, nothing);
    }

    /** In a constructor, or at a field. */
    private boolean isInConstructor() {
        MethodTree around = Source.methodAround(getCurrentPath());
        return around == null || around.getReturnType() == null;
    }

    @Override
    public Void visitTypeCast(TypeCastTree cast, Void nothing) {
        String type = cast.getType().toString();
        rule("3: a cast to " + type, type.matches("int|long|short|byte|char|double|float"), cast);
        return super.visitTypeCast(cast, nothing);
    }

    @Override
    public Void visitForLoop(ForLoopTree loop, Void nothing) {
        rule("9: a loop has a condition", loop.getCondition() != null && loop.getUpdate().size() == 1, loop);
        return super.visitForLoop(loop, nothing);
    }

    @Override
    public Void visitBinary(BinaryTree binary, Void nothing) {
        String left = source.typeOf(getCurrentPath(), binary.getLeftOperand()).toString();
        String right = source.typeOf(getCurrentPath(), binary.getRightOperand()).toString();
        rule("10: no " + binary.getKind() + " of texts", !left.endsWith("String") && !right.endsWith("String"), binary);
        return super.visitBinary(binary, nothing);
    }
}
