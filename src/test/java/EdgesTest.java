import java.io.IOException;
import java.nio.file.DirectoryStream;
import java.nio.file.Files;
import java.nio.file.Path;
import java.util.ArrayList;
import java.util.List;
import java.util.Map;
import java.util.Set;
import java.util.TreeMap;
import java.util.TreeSet;

/**
 * The boundary cases, sentence by sentence, as src/test/edges/*.txt tell them (README.md has how they are written). Of
 * each call that is refused or asked it is looked at, too, whether it has changed anything; and whether each promise,
 * each of its refusals, and each bracket of the Terms has a sentence's test.
 */
public final class EdgesTest {
    private static final Path EDGES = Path.of("src/test/edges");
    private static final String FIRST = "the first that a call's words name";
    private static final String NOTHING_CHANGES = "What is answered so changes nothing";
    private static final String BY_RULE = "Where a call names a RULE";
    private static final String OF_LONGS = "Of longs part 0 is above";
    private static final String ASKED = "All that follows is asked, and changes nothing";
    private static final String[] REFUSALS = {"NONE", "BAD", "STATE", "FULL", "HUGE", "NOTHING", "CAST", "PLACE", "SIZE",
        "NO", "-5"};

    /** Those whose refusals can't meet in one call: there is one alone, or they are of one number. */
    private static final Set<Integer> REFUSALS_APART = Set.of(8, 9, 10, 18, 26, 28, 30, 31, 32, 33, 37, 40, 41, 42);
    /** Of fractions there is NO alone, so that none comes first. */
    private static final Set<Integer> FRACTIONS = Set.of(12, 13, 14, 15, 19, 21, 22, 24, 34, 45);
    /** read() has a FAULT instead, which leaves THE TEXT empty. */
    private static final Set<Integer> NEVER_REFUSED = Set.of(1, 7, 17, 26, 39);
    /** Of what stands in part 2 these two are no questions. */
    private static final Set<Integer> CHANGING = Set.of(17, 27);

    private final Checks checks;
    private final Document document;
    private final Map<String, List<Step>> runs = new TreeMap<>();
    private final Map<Integer, Set<String>> tested = new TreeMap<>();
    private final Map<Integer, Set<String>> answered = new TreeMap<>();
    private int sentences;

    private EdgesTest(Document document, Checks checks) {
        this.document = document;
        this.checks = checks;
    }

    /** Cases told elsewhere: how many there were. */
    static int tried(List<String> lines, String where, Document document, Checks checks) {
        EdgesTest test = new EdgesTest(document, checks);
        test.lines(lines, where);
        return test.sentences;
    }

    private void lines(List<String> lines, String of) {
        List<Step> steps = null;
        Sentence sentence = null;
        int number = 0;
        for (String line : lines) {
            number++;
            String where = of + ":" + number;
            if (line.isBlank() || line.startsWith("#")) continue;
            if (line.startsWith("::") || line.startsWith("==")) {
                if (sentence != null) test(sentence);
                sentence = null;
            }
            if (line.startsWith("::")) {
                steps = new ArrayList<>();
                checks.that(runs.put(line.substring(2).trim(), steps) == null, where + ": a run of that name is there");
            } else if (line.startsWith("==")) {
                sentence = Sentence.of(line.substring(2).trim(), where);
                steps = sentence.steps();
            } else {
                steps.addAll(stepsOf(line.trim(), where));
            }
        }
        if (sentence != null) test(sentence);
    }

    /** A line is the name of a run, or calls. */
    private List<Step> stepsOf(String line, String where) {
        List<Step> run = runs.get(line);
        return run != null ? run : Step.of(line, where);
    }

    private void test(Sentence sentence) {
        sentences++;
        int promise = sentence.promise();
        String words = sentence.words();
        checks.that(document.says(promise, words), sentence.where() + ": the document doesn't say '" + words + "'");
        tested.computeIfAbsent(promise, p -> new TreeSet<>()).add(words);
        answered.computeIfAbsent(promise, p -> new TreeSet<>()).addAll(sentence.run(checks));
    }

    /** Whether each promise has what the document says of it, and each bracket of the Terms has a test. */
    private void complete() {
        for (int promise = 1; promise <= Document.PROMISES; promise++) {
            has(promise, "");
            refusals(promise);
            boolean canMeet = !REFUSALS_APART.contains(promise) && !FRACTIONS.contains(promise);
            if (canMeet && !NEVER_REFUSED.contains(promise)) has(promise, FIRST);
            if (!NEVER_REFUSED.contains(promise)) has(promise, NOTHING_CHANGES);
            if (promise >= 12 && promise <= 28 && !CHANGING.contains(promise)) has(promise, ASKED);
            if (document.promise(promise).contains("(int rule,")) has(promise, BY_RULE);
            if (FRACTIONS.contains(promise) && promise != 45) has(promise, OF_LONGS);
        }
        for (String bracket : document.brackets()) {
            boolean is = tested.values().stream().anyMatch(all -> all.stream().anyMatch(w -> w.contains(bracket)));
            checks.that(is, "no test of the Terms' " + bracket);
        }
    }

    private void has(int promise, String words) {
        boolean is = tested.getOrDefault(promise, Set.of()).stream().anyMatch(w -> w.contains(words));
        checks.that(is, promise + ": no test of '" + words + "'");
    }

    private void refusals(int promise) {
        for (String refusal : REFUSALS) {
            if (!isNamed(promise, refusal)) continue;
            boolean is = answered.getOrDefault(promise, Set.of()).contains(refusal);
            checks.that(is, promise + ": no call answers " + refusal);
            is = tested.getOrDefault(promise, Set.of()).stream()
                    .anyMatch(w -> w.matches(".*(^|\\W)" + refusal + "(\\W.*|$)"));
            checks.that(is, promise + ": no test of the words with " + refusal);
        }
    }

    private boolean isNamed(int promise, String refusal) {
        boolean isFraction = FRACTIONS.contains(promise);
        if (refusal.equals("NO")) return isFraction;
        return document.promise(promise).matches(".*\\W" + refusal + "\\b.*");
    }

    public static void main(String[] args) throws IOException {
        EdgesTest test = new EdgesTest(Document.found(), new Checks("EdgesTest"));
        try (DirectoryStream<Path> files = Files.newDirectoryStream(EDGES, "*.txt")) {
            List<Path> all = new ArrayList<>();
            files.forEach(all::add);
            all.sort(null);
            for (Path one : all) test.lines(Files.readAllLines(one), one.getFileName().toString());
        }
        test.complete();
        System.out.println("  " + test.sentences + " sentences");
        test.checks.end();
    }
}
