import java.lang.reflect.InvocationTargetException;
import java.lang.reflect.Method;
import java.util.Set;

/** One call as it is told in a text, with its numbers: "order(0, most)", most and least being those of an int or a long. */
final class Call {
    private static final Set<String> ASKS = Set.of("told", "ruled", "row", "cost", "worth", "act", "better", "best",
            "regret", "closed", "share", "daily", "limits", "within", "first", "looks", "fits", "total", "record", "likely",
            "would", "ends", "judge", "taken", "count", "peek");

    private final String told;
    private final Method method;
    private final Object[] numbers;

    private Call(String told, Method method, Object[] numbers) {
        this.told = told;
        this.method = method;
        this.numbers = numbers;
    }

    static Call of(String told) {
        int open = told.indexOf('(');
        String inside = told.substring(open + 1, told.length() - 1).trim();
        String[] words = inside.isEmpty() ? new String[0] : inside.split(" *, *");
        Method method = methodOf(told.substring(0, open));
        Class<?>[] types = method.getParameterTypes();
        if (types.length != words.length) throw new IllegalArgumentException("not so many numbers: " + told);
        Object[] numbers = new Object[words.length];
        for (int i = 0; i < words.length; i++) numbers[i] = numberOf(words[i], types[i] == long.class);
        return new Call(told, method, numbers);
    }

    private static Method methodOf(String name) {
        for (Method one : ReorderMind.class.getDeclaredMethods()) {
            if (one.getName().equals(name)) return one;
        }
        throw new IllegalArgumentException("no such call: " + name);
    }

    private static Object numberOf(String word, boolean isLong) {
        if (isLong) {
            return word.equals("most") ? Long.MAX_VALUE : word.equals("least") ? Long.MIN_VALUE : Long.parseLong(word);
        }
        Object number = word.equals("most") ? Integer.MAX_VALUE : word.equals("least") ? Integer.MIN_VALUE
                : Integer.parseInt(word);
        return number;
    }

    /** The same call with one number more. */
    static Call withPart(String told, int part) {
        return of(told.substring(0, told.length() - 1) + (told.endsWith("()") ? "" : ", ") + part + ")");
    }

    String name() {
        return method.getName();
    }

    String told() {
        return told;
    }

    /** Whether the document says that it is asked, and changes nothing. */
    boolean isAsked() {
        return ASKS.contains(name());
    }

    long on(ReorderMind x) {
        try {
            return ((Number) method.invoke(x, numbers)).longValue();
        } catch (IllegalAccessException | InvocationTargetException e) {
            throw new IllegalStateException(told, e);
        }
    }
}
