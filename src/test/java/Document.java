import java.io.IOException;
import java.nio.file.Files;
import java.nio.file.Path;
import java.util.ArrayList;
import java.util.List;
import java.util.regex.Matcher;
import java.util.regex.Pattern;

/** ../shared/DOC.md, in parts: the Terms, what is said of all answers, and what is said of each promise. */
final class Document {
    static final int PROMISES = 46;

    private final String terms;
    private final String answers;
    private final String[] promises = new String[PROMISES + 1];

    private Document(String whole) {
        String one = spaced(whole);
        int termsAt = one.indexOf("## Terms");
        int answersAt = one.indexOf("Answers: NONE");
        int constantsAt = one.indexOf("The constants:");
        terms = one.substring(termsAt, answersAt);
        answers = one.substring(answersAt, constantsAt);
        for (int i = 1; i <= PROMISES; i++) {
            int from = one.indexOf("## Promise " + i + ":");
            int to = one.indexOf("## ", from + 3);
            promises[i] = one.substring(from, to);
        }
    }

    static Document found() throws IOException {
        return new Document(text());
    }

    /** As it stands, from its first sign to its last one. */
    static String text() throws IOException {
        String shared = System.getenv("SHARED");
        return Files.readString(Path.of(shared == null ? "../shared" : shared, "DOC.md"));
    }

    private static String spaced(String text) {
        return text.replaceAll("\\s+", " ").trim();
    }

    /** Whether these words stand in the promise, in the Terms, or in what is said of all answers. */
    boolean says(int promise, String words) {
        String one = spaced(words);
        return promises[promise].contains(one) || terms.contains(one) || answers.contains(one);
    }

    String promise(int promise) {
        return promises[promise];
    }

    /** What stands in brackets in the Terms: nearly all bounds do. */
    List<String> brackets() {
        List<String> all = new ArrayList<>();
        Matcher matcher = Pattern.compile("\\([^()]*(\\([^()]*\\)[^()]*)?\\)").matcher(terms);
        while (matcher.find()) all.add(matcher.group());
        return all;
    }
}
