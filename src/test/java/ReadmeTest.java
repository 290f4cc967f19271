import java.io.File;
import java.io.IOException;
import java.lang.reflect.Field;
import java.net.URL;
import java.net.URLClassLoader;
import java.nio.charset.StandardCharsets;
import java.nio.file.Files;
import java.nio.file.Path;
import java.util.ArrayList;
import java.util.List;
import java.util.Map;
import java.util.Set;
import java.util.TreeMap;
import java.util.TreeSet;
import java.util.function.BiConsumer;
import java.util.regex.Matcher;
import java.util.regex.Pattern;
import java.util.stream.Stream;
import javax.tools.ToolProvider;

/** README.md, tried as it stands there: its programs, commands, pieces of code, tables, and the names of files. */
public final class ReadmeTest {
    /** What runs this test itself. */
    private static final String RUNS_ALL = "bash .ci/run";
    private static final Pattern PROGRAM = Pattern.compile("public class (\\w+) ");
    private static final Pattern ANSWERED = Pattern.compile("^( *)(x\\.\\w+\\(.*\\)); +// (-?\\d+|[A-Z]+)(:.*)?$");
    private static final Pattern CALL = Pattern.compile("`(\\w+\\([a-z, ]*\\))`");
    private static final Pattern REFUSAL = Pattern.compile("\\| (?:`([A-Z]+)`)? ?\\| (-\\d+) \\| ([A-Z]+(?=:))?.*");

    /** Words of a tag, what stands in it, and the line where it begins. */
    private record Block(String tag, String text, int line) {
        List<String> lines() {
            return text.isEmpty() ? List.of() : List.of(text.split("\n"));
        }
    }

    private final Checks checks = new Checks("ReadmeTest");
    private final List<Block> blocks = new ArrayList<>();
    private final List<String> prose = new ArrayList<>();

    private ReadmeTest() throws IOException {
        String tag = null;
        StringBuilder text = new StringBuilder();
        int number = 0;
        int begun = 0;
        for (String line : Files.readAllLines(Path.of("README.md"))) {
            number++;
            if (!line.startsWith("```")) {
                if (tag == null) prose.add(line);
                else text.append(line).append('\n');
            } else if (tag == null) {
                tag = line.substring(3);
                begun = number;
            } else {
                blocks.add(new Block(tag, text.toString(), begun));
                text.setLength(0);
                tag = null;
            }
        }
        checks.that(tag == null, "the last piece has no end");
    }

    private String words() {
        return String.join(" ", prose);
    }

    // ---- programs and commands

    private static void copy(Path from, Path to) throws IOException {
        try (Stream<Path> all = Files.walk(from)) {
            for (Path one : all.toList()) {
                Path there = to.resolve(from.relativize(one).toString());
                if (Files.isDirectory(one)) Files.createDirectories(there);
                else Files.copy(one, there);
            }
        }
    }

    private static void delete(Path from) throws IOException {
        try (Stream<Path> all = Files.walk(from)) {
            for (Path one : all.sorted((a, b) -> b.compareTo(a)).toList()) Files.delete(one);
        }
    }

    /** In a copy of the project, with the programs in the files that they are told to be in. */
    private void commands() throws IOException, InterruptedException {
        Path project = Files.createTempDirectory("readme");
        copy(Path.of("src"), project.resolve("src"));
        for (Block block : blocks) {
            Matcher program = PROGRAM.matcher(block.text());
            if (!block.tag().equals("java") || !program.find()) continue;
            String file = program.group(1) + ".java";
            checks.that(words().contains("`" + file + "`"), block.line() + ": the page doesn't say " + file);
            Files.writeString(project.resolve(file), block.text());
        }
        for (int i = 0; i < blocks.size(); i++) {
            Block block = blocks.get(i);
            if (!block.tag().equals("sh")) continue;
            boolean isTold = i + 1 < blocks.size() && blocks.get(i + 1).tag().equals("text");
            command(block, project, isTold ? blocks.get(i + 1).text() : null);
        }
        delete(project);
    }

    private void command(Block block, Path project, String due) throws IOException, InterruptedException {
        if (block.text().trim().equals(RUNS_ALL)) {
            checks.that(Files.isExecutable(Path.of(".ci/run")), block.line() + ": .ci/run is not there to be run");
            return;
        }
        ProcessBuilder shell = new ProcessBuilder("bash", "-e", "-c", block.text());
        String shared = System.getenv("SHARED");
        shell.environment().put("SHARED", Path.of(shared == null ? "../shared" : shared).toAbsolutePath().toString());
        Process process = shell.directory(project.toFile()).redirectErrorStream(true).start();
        String said = new String(process.getInputStream().readAllBytes(), StandardCharsets.UTF_8);
        checks.due(block.line() + ": the exit code of " + block.text().trim(), process.waitFor(), 0);
        checks.that(due == null || said.equals(due), block.line() + ": was said: " + said);
    }

    // ---- pieces of code

    /** All pieces as they stand, and once more with what their calls answer. */
    private void pieces() throws Exception {
        StringBuilder source = new StringBuilder("public final class Pieces {\n");
        int answers = 0;
        for (Block block : blocks) {
            if (!block.tag().equals("java") || PROGRAM.matcher(block.text()).find()) continue;
            source.append("static void stands").append(block.line()).append("() {\n").append(block.text()).append("}\n");
            source.append("public static void piece").append(block.line())
                    .append("(java.util.function.BiConsumer<String, long[]> due) {\n");
            int line = block.line();
            for (String one : block.lines()) {
                line++;
                Matcher answered = ANSWERED.matcher(one);
                boolean is = answered.matches();
                answers += is ? 1 : 0;
                checks.that(is || !one.contains("//"), line + ": what is answered can't be read");
                String told = is ? due(line, answered) : one;
                source.append(told).append('\n');
            }
            source.append("}\n");
        }
        checks.that(answers > 0, "there are no answers");
        run(source.append("}\n").toString());
    }

    private static String due(int line, Matcher answered) {
        String call = answered.group(2);
        String answer = answered.group(3);
        String due = answer.matches("[A-Z]+") ? "ReorderMind." + answer : answer + "L";
        return "due.accept(\"" + line + ": " + call.replace("\"", "'") + "\", new long[] {" + call + ", " + due + "});";
    }

    private void run(String source) throws Exception {
        Path folder = Files.createTempDirectory("pieces");
        Path file = folder.resolve("Pieces.java");
        Files.writeString(file, source);
        int code = ToolProvider.getSystemJavaCompiler().run(null, null, null, "-nowarn", "-cp",
                System.getProperty("java.class.path"), "-d", folder.toString(), file.toString());
        checks.due("the exit code of javac with the pieces", code, 0);
        BiConsumer<String, long[]> due = (told, two) -> checks.due(told, two[0], two[1]);
        if (code == 0) {
            try (URLClassLoader loader = new URLClassLoader(new URL[] {folder.toUri().toURL()})) {
                Class<?> pieces = loader.loadClass("Pieces");
                for (Block block : blocks) {
                    if (!block.tag().equals("java") || PROGRAM.matcher(block.text()).find()) continue;
                    pieces.getMethod("piece" + block.line(), BiConsumer.class).invoke(null, due);
                }
            }
        }
        delete(folder);
    }

    // ---- tables and names

    /** The calls in the table are those of the document's face, by the same names of numbers. */
    private void calls(String document) {
        Set<String> due = new TreeSet<>();
        Matcher face = Pattern.compile("public (?:int|long) (\\w+)\\((.*)\\);").matcher(document);
        while (face.find()) due.add(face.group(1) + "(" + face.group(2).replaceAll("\\b(int|long) ", "") + ")");
        Set<String> there = new TreeSet<>();
        for (String line : prose) {
            Matcher call = CALL.matcher(line);
            while (line.startsWith("|") && call.find()) there.add(call.group(1));
        }
        checks.that(there.equals(due), "the table's calls are " + there + ", the document's " + due);
    }

    /** The refusals have the numbers that the class, or the document, gives to their names. */
    private void refusals(String document) throws IllegalAccessException {
        Map<String, Long> there = new TreeMap<>();
        for (String line : prose) {
            Matcher refusal = REFUSAL.matcher(line);
            if (!refusal.matches()) continue;
            String name = refusal.group(1) != null ? refusal.group(1) : refusal.group(3);
            if (name != null) there.put(name, Long.valueOf(refusal.group(2)));
        }
        Map<String, Long> due = new TreeMap<>();
        for (Field one : ReorderMind.class.getFields()) due.put(one.getName(), one.getLong(null));
        Matcher host = Pattern.compile("\\b(NOTHING|CAST|PLACE|SIZE) \\((-\\d+)\\)").matcher(document);
        while (host.find()) due.put(host.group(1), Long.valueOf(host.group(2)));
        checks.that(there.equals(due), "the table's refusals are " + there + ", due are " + due);
    }

    private void names() {
        Set<String> inside = new TreeSet<>();
        for (Class<?> one : ReorderMind.class.getDeclaredClasses()) inside.add(one.getSimpleName());
        Set<String> there = new TreeSet<>();
        for (String line : prose) {
            Matcher row = Pattern.compile("\\| `([A-Z][a-z]\\w+)` \\|.*").matcher(line);
            if (row.matches()) there.add(row.group(1));
        }
        checks.that(there.equals(inside), "the classes inside are " + inside + ", told are " + there);

        Set<String> tests = new TreeSet<>();
        for (String name : new File("src/test/java").list()) if (name.endsWith("Test.java")) tests.add(name.replace(".java", ""));
        Set<String> told = new TreeSet<>();
        Matcher test = Pattern.compile("`(\\w+Test)`").matcher(words());
        while (test.find()) told.add(test.group(1));
        checks.that(told.equals(tests), "the tests are " + tests + ", told are " + told);

        Matcher path = Pattern.compile("`([A-Za-z.][\\w.]*/[\\w./-]+)`").matcher(words());
        while (path.find()) {
            boolean isShared = path.group(1).startsWith("../shared");
            checks.that(isShared || Files.exists(Path.of(path.group(1))), "there is no " + path.group(1));
        }
    }

    // ---- how a boundary case is told

    private void edges(Document document) throws IOException {
        int runs = 0;
        for (Block block : blocks) {
            if (!block.tag().equals("edges")) continue;
            runs += EdgesTest.tried(block.lines(), "README.md:" + block.line(), document, checks);
        }
        checks.that(runs > 0, "there is no boundary case");
    }

    public static void main(String[] args) throws Exception {
        ReadmeTest test = new ReadmeTest();
        test.commands();
        test.pieces();
        test.calls(Document.text());
        test.refusals(Document.text());
        test.names();
        test.edges(Document.found());
        test.checks.end();
    }
}
