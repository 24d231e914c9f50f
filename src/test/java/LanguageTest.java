import com.sun.source.tree.*;
import com.sun.source.util.JavacTask;
import com.sun.source.util.SourcePositions;
import com.sun.source.util.TreeScanner;
import com.sun.source.util.Trees;
import java.io.File;
import java.util.ArrayList;
import java.util.HashSet;
import java.util.List;
import java.util.Set;
import javax.lang.model.element.Modifier;
import javax.tools.JavaCompiler;
import javax.tools.StandardJavaFileManager;
import javax.tools.ToolProvider;

/** The rules of LANGUAGE.md that can be seen in the tree of the program's file. */
public final class LanguageTest extends TreeScanner<Void, Void> {
    private static final Checks C = new Checks("language");
    private static final Set<String> FORBIDDEN = Set.of("THROW", "TRY", "CATCH", "SYNCHRONIZED", "ASSERT",
        "LAMBDA_EXPRESSION", "MEMBER_REFERENCE", "IMPORT", "PACKAGE", "ANNOTATION", "SWITCH_EXPRESSION", "YIELD");
    private static final Set<String> LIBRARY = Set.of("Math.min", "Math.max", "Math.abs", "System.arraycopy");
    private static final Set<String> TYPES = Set.of("String", "Math", "System");
    private static final String[] FACE = {"model", "price", "priceOn", "lot", "hours", "till", "sell", "gift", "ofSale",
        "join", "keep", "feed", "end", "text", "inForce", "says", "ask", "judged", "ofAsking", "take", "leave", "note",
        "stock", "worth", "sort", "sellUsed", "ofLot", "beyond", "since", "honest", "limit", "tried", "hits", "size",
        "shift", "brought", "damage", "carrier", "count"};

    private final CompilationUnitTree unit;
    private final SourcePositions positions;
    private final Set<String> ownClasses = new HashSet<>();
    private final Set<String> face = Set.of(FACE);
    private final List<String> publicMethods = new ArrayList<>();
    private int classDepth;

    private LanguageTest(CompilationUnitTree unit, SourcePositions positions) {
        this.unit = unit;
        this.positions = positions;
    }

    public static void main(String[] args) throws Exception {
        JavaCompiler compiler = ToolProvider.getSystemJavaCompiler();
        try (StandardJavaFileManager files = compiler.getStandardFileManager(null, null, null)) {
            JavacTask task = (JavacTask) compiler.getTask(null, files, null, null, null,
                files.getJavaFileObjects(new File("src/main/java/ReturnDesk.java")));
            for (CompilationUnitTree unit : task.parse()) {
                LanguageTest test = new LanguageTest(unit, Trees.instance(task).getSourcePositions());
                C.holds("one class in the file", unit.getTypeDecls().size() == 1);
                C.holds("no package line", unit.getPackageName() == null);
                test.scan(unit, null);
                C.holds("at most 12 classes, not " + test.ownClasses.size(), test.ownClasses.size() <= 12);
                C.holds("the whole face", test.publicMethods.containsAll(List.of(FACE))
                    && test.publicMethods.size() == FACE.length + 1);
            }
        }
        C.finish();
    }

    private long lineOf(long position) {
        return unit.getLineMap().getLineNumber(position);
    }

    private String at(Tree tree) {
        return " in line " + lineOf(positions.getStartPosition(unit, tree));
    }

    @Override
    public Void scan(Tree tree, Void nothing) {
        if (tree != null) {
            C.holds("no " + tree.getKind() + at(tree), !FORBIDDEN.contains(tree.getKind().name()));
        }
        return super.scan(tree, nothing);
    }

    @Override
    public Void visitClass(ClassTree tree, Void nothing) {
        Set<Modifier> flags = tree.getModifiers().getFlags();
        ownClasses.add(tree.getSimpleName().toString());
        C.holds("a class has a name" + at(tree), tree.getSimpleName().length() > 0);
        C.holds("public and final, or private and static" + at(tree), flags.contains(Modifier.FINAL)
            && (classDepth == 0 ? flags.contains(Modifier.PUBLIC)
                : flags.contains(Modifier.STATIC) && flags.contains(Modifier.PRIVATE)));
        long fields = tree.getMembers().stream().filter(m -> m instanceof VariableTree v
            && !v.getModifiers().getFlags().contains(Modifier.STATIC)).count();
        C.holds("at most 20 fields" + at(tree), fields <= 20);
        for (Tree member : tree.getMembers()) {
            if (member instanceof VariableTree v) {
                checkField(v);
            }
        }
        classDepth++;
        super.visitClass(tree, nothing);
        classDepth--;
        return null;
    }

    private void checkField(VariableTree v) {
        Set<Modifier> flags = v.getModifiers().getFlags();
        C.holds("a static field is final" + at(v), !flags.contains(Modifier.STATIC) || flags.contains(Modifier.FINAL));
        boolean inFace = classDepth == 0;
        boolean isConstant = Set.of("BAD", "NOT", "FULL", "BIG", "VOID").contains(v.getName().toString());
        C.holds("only the constants are seen" + at(v), !inFace
            || flags.contains(isConstant ? Modifier.PUBLIC : Modifier.PRIVATE));
    }

    @Override
    public Void visitMethod(MethodTree tree, Void nothing) {
        Set<Modifier> flags = tree.getModifiers().getFlags();
        String name = tree.getName().toString();
        long lines = lineOf(positions.getEndPosition(unit, tree)) - lineOf(positions.getStartPosition(unit, tree)) + 1;
        boolean isFace = classDepth == 1 && (face.contains(name) || name.equals("<init>"));
        C.holds("at most 7 parameters" + at(tree), tree.getParameters().size() <= 7);
        C.holds("at most 60 lines" + at(tree), lines <= 60);
        C.holds("no other method bears a name of the face" + at(tree), isFace || !face.contains(name));
        C.holds("only the face is seen" + at(tree), flags.contains(Modifier.PUBLIC) == isFace
            && (classDepth > 1 || isFace || flags.contains(Modifier.PRIVATE)));
        if (isFace) {
            publicMethods.add(name);
        }
        return super.visitMethod(tree, nothing);
    }

    @Override
    public Void visitMemberSelect(MemberSelectTree tree, Void nothing) {
        String whole = tree.toString();
        if (whole.startsWith("Math.") || whole.startsWith("System.") || whole.startsWith("java")) {
            C.holds(whole + " is of the library" + at(tree), LIBRARY.contains(whole));
        }
        return super.visitMemberSelect(tree, nothing);
    }

    @Override
    public Void visitIdentifier(IdentifierTree tree, Void nothing) {
        String name = tree.getName().toString();
        boolean looksLikeType = name.length() > 1 && Character.isUpperCase(name.charAt(0))
            && !name.equals(name.toUpperCase());
        C.holds(name + " is a known type" + at(tree), !looksLikeType || TYPES.contains(name)
            || Set.of("Model", "Lot", "Sale", "Asking", "Text", "Tape", "Reader", "Machine", "Judgement", "Purse")
                .contains(name));
        return super.visitIdentifier(tree, nothing);
    }

    @Override
    public Void visitLiteral(LiteralTree tree, Void nothing) {
        if (tree.getValue() instanceof String text) {
            C.holds("signs 1 to 127" + at(tree), text.chars().allMatch(c -> c >= 1 && c <= 127));
        }
        return super.visitLiteral(tree, nothing);
    }
}
