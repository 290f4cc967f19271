import java.io.IOException;
import java.lang.reflect.Field;
import java.lang.reflect.Method;
import java.lang.reflect.Modifier;
import java.nio.charset.StandardCharsets;
import java.nio.file.Files;
import java.nio.file.Path;
import java.util.ArrayList;
import java.util.List;
import java.util.Set;
import java.util.TreeSet;
import java.util.regex.Matcher;
import java.util.regex.Pattern;

/** What of ../shared/LANGUAGE.md can be seen in the source of ReorderMind, and in its classes. */
public final class LanguageTest {
    private static final int MOST_CLASSES = 12, MOST_FIELDS = 20, MOST_PARAMETERS = 7, MOST_LINES = 60;

    /** Words and signs outside the language, as regular expressions. */
    private static final String[] OUTSIDE = {"\\bthrows?\\b", "\\btry\\b", "\\bcatch\\b", "\\bfinally\\b", "\\bsynchronized\\b",
        "\\bassert\\b", "->", "::", "\\bimport\\b", "\\bpackage\\b", "\\bprotected\\b", "\\bnative\\b", "\\bvolatile\\b",
        "Exact\\b", "\\bequals\\b", "\\bhashCode\\b", "\\btoString\\b", "\\bObject\\b", "\\bThread\\b", "\\bRandom\\b", "@",
        "\\bSystem\\.(?!arraycopy\\b)", "\\bMath\\.(?!(abs|min|max)\\b)", "\\bstatic\\s*\\{", "\\bvar\\b", "\\bgoto\\b",
        "\\bstatic (?!final\\b)[\\w\\[\\]]+ \\w+( =|;)"};

    private static Checks checks;

    private static String withoutCommentsAndTexts(String source) {
        return source.replaceAll("(?s)/\\*.*?\\*/", " ").replaceAll("//[^\n]*", " ")
                .replaceAll("'(\\\\.|[^'\\\\])'", "' '").replaceAll("\"(\\\\.|[^\"\\\\])*\"", "\"\"");
    }

    private static void words(String source) {
        String bare = withoutCommentsAndTexts(source);
        for (String outside : OUTSIDE) {
            Matcher matcher = Pattern.compile(outside).matcher(bare);
            checks.that(!matcher.find(), "the source has " + outside);
        }
        checks.that(source.chars().allMatch(c -> c >= 1 && c <= 127), "signs above 127");
        checks.that(!Pattern.compile("\"\\s*\\+|\\+\\s*\"").matcher(bare).find(), "texts are joined by +");
    }

    private static void methodLengths(String source) {
        String[] lines = source.split("\n", -1);
        int begun = -1;
        String indent = "";
        for (int i = 0; i < lines.length; i++) {
            Matcher head = Pattern.compile("^( {4}| {8})(?! )[\\w\\[\\] ]+\\(.*\\) \\{$").matcher(lines[i]);
            if (head.matches() && begun < 0) {
                begun = i;
                indent = head.group(1);
            } else if (begun >= 0 && lines[i].equals(indent + "}")) {
                checks.that(i - begun < MOST_LINES, "a long method in line " + (begun + 1));
                begun = -1;
            }
        }
        checks.that(begun < 0, "a method that has no end");
    }

    private static List<Class<?>> classes() {
        List<Class<?>> all = new ArrayList<>(List.of(ReorderMind.class));
        all.addAll(List.of(ReorderMind.class.getDeclaredClasses()));
        return all;
    }

    private static void shapes() {
        Set<String> publicNames = new TreeSet<>();
        for (Method m : ReorderMind.class.getDeclaredMethods()) {
            if (Modifier.isPublic(m.getModifiers())) publicNames.add(m.getName());
        }
        checks.that(classes().size() <= MOST_CLASSES, "there are many classes");
        for (Class<?> one : classes()) {
            int fields = 0;
            for (Field f : one.getDeclaredFields()) {
                if (!Modifier.isStatic(f.getModifiers())) fields++;
                else checks.that(Modifier.isFinal(f.getModifiers()), f + " is static, not final");
            }
            checks.that(fields <= MOST_FIELDS, one + " has many fields");
            checks.that(one.getDeclaredClasses().length == 0 || one == ReorderMind.class, one + " has classes inside");
            for (Method m : one.getDeclaredMethods()) {
                checks.that(m.getParameterCount() <= MOST_PARAMETERS, m + " takes many numbers");
                checks.that(!m.isSynthetic(), m + " is not in the source");
                checks.that(one == ReorderMind.class || !publicNames.contains(m.getName()),
                        m + " bears the name of a public one");
            }
        }
    }

    public static void main(String[] args) throws IOException {
        checks = new Checks("LanguageTest");
        String source = Files.readString(Path.of("src/main/java/ReorderMind.java"), StandardCharsets.UTF_8);
        words(source);
        methodLengths(source);
        shapes();
        checks.end();
    }
}
