import com.sun.source.tree.CompilationUnitTree;
import com.sun.source.util.JavacTask;
import com.sun.source.util.Trees;
import java.io.IOException;
import java.nio.charset.StandardCharsets;
import java.nio.file.Files;
import java.nio.file.Path;
import java.util.List;
import javax.tools.JavaCompiler;
import javax.tools.StandardJavaFileManager;
import javax.tools.ToolProvider;

/** ReorderMind against ../shared/LANGUAGE.md, as the compiler reads it; each fault begins with its rule's number. */
public final class LanguageTest {
    private static final Path SOURCE = Path.of("src/main/java/ReorderMind.java");
    private static final String HOLDS = "final class T { private static final class One { int v; } ";

    /** What must not stand, and the rule's number: a test that finds nothing in these would find nothing at all. */
    private static final String[][] OUTSIDE = {
        {"1", "package a; final class T { }"}, {"1", "final class T { } class U { }"},
        {"1", HOLDS + "int shown; }"}, {"1", HOLDS + "public int a() { return 0; } private int a(int b) { return b; } }"},
        {"2", "final class T { class Inner { } }"}, {"2", HOLDS + "Runnable a = () -> { }; }"},
        {"2", HOLDS + "void a() { class Local { } } }"}, {"2", HOLDS + "One a = new One() { }; }"},
        {"3", HOLDS + "private Object a; }"}, {"3", HOLDS + "private One[][] a; }"}, {"3", HOLDS + "private int[][][] a; }"},
        {"4", "import java.util.Map; final class T { }"}, {"4", HOLDS + "private long a() { return System.nanoTime(); } }"},
        {"4", HOLDS + "private int a(int b) { return Math.addExact(b, b); } }"},
        {"4", HOLDS + "private int a() { return Integer.MAX_VALUE; } }"},
        {"5", HOLDS + "private static int a; }"}, {"5", HOLDS + "private static final One A = new One(); }"},
        {"5", HOLDS + "static { } }"}, {"5", HOLDS + "private static final int[] A = new int[3]; }"},
        {"6", HOLDS + "void a() { throw new RuntimeException(); } }"}, {"6", HOLDS + "void a() { try { a(); } finally { } } }"},
        {"6", HOLDS + "void a() { assert true; } }"}, {"6", HOLDS + "void a() { synchronized (this) { } } }"},
        {"6", HOLDS + "boolean a(String b) { return b == \"b\"; } }"}, {"6", HOLDS + "public String toString() { return \"\"; } }"},
        {"8", HOLDS + "private int a(int b) { return b > 0 ? a(b - 1) : 0; } }"},
        {"9", HOLDS + "void a() { while (true) { } } }"}, {"9", HOLDS + "void a() { for (int i = 0; i < 3; i++) i = 0; } }"},
        {"9", HOLDS + "void a() { for (int i = 0; i < 3; i--) { } } }"}, {"9", HOLDS + "void a() { do { } while (1 > 0); } }"},
        {"10", HOLDS + "String a(int b) { return \"b\" + b; } }"},
        {"11", HOLDS + "void a(int b, int c, int d, int e, int f, int g, int h, int i) { } }"},
        {"11", HOLDS + "void a() { b(); } void b() { c(); } void c() { d(); } void d() { e(); } void e() { f(); } "
            + "void f() { g(); } void g() { h(); } void h() { i(); } void i() { } }"},
        {"11", HOLDS + "void a() { " + "\n".repeat(60) + "} }"},
        {"12", HOLDS + "One a() { return new One(); } }"},
    };

    private static void outside(Checks checks, String rule, String source) throws IOException {
        Path file = Files.createTempDirectory("language").resolve("T.java");
        Files.writeString(file, source);
        LanguageRules rules = read(file);
        boolean isSeen = rules.faults().stream().anyMatch(f -> f.startsWith(rule + ":"));
        checks.that(isSeen, "it is not seen that this breaks rule " + rule + ": " + source);
        Files.delete(file);
        Files.delete(file.getParent());
    }

    private static LanguageRules read(Path file) throws IOException {
        JavaCompiler compiler = ToolProvider.getSystemJavaCompiler();
        try (StandardJavaFileManager files = compiler.getStandardFileManager(null, null, null)) {
            // What the compiler says of a source that breaks a rule is not told.
            JavacTask task = (JavacTask) compiler.getTask(null, files, fault -> { }, List.of("-proc:none"), null,
                    files.getJavaFileObjects(file));
            CompilationUnitTree unit = task.parse().iterator().next();
            task.analyze();
            LanguageRules rules = new LanguageRules(Trees.instance(task), unit);
            rules.all();
            return rules;
        }
    }

    public static void main(String[] args) throws IOException {
        Checks checks = new Checks("LanguageTest");
        for (String[] one : OUTSIDE) outside(checks, one[0], one[1]);
        LanguageRules rules = read(SOURCE);
        for (String fault : rules.faults()) checks.that(false, "rule " + fault);
        checks.that(rules.looked() > 1000, "the source is not read as a whole");
        checks.that(Files.readString(SOURCE, StandardCharsets.UTF_8).chars().allMatch(c -> c >= 1 && c <= 127),
                "rule 4: signs above 127");
        checks.end();
    }
}
