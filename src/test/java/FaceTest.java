import java.lang.reflect.Constructor;
import java.lang.reflect.Field;
import java.lang.reflect.Method;
import java.lang.reflect.Modifier;
import java.util.Arrays;
import java.util.Set;
import java.util.TreeSet;

/** The public face is the document's, and nothing else of the class can be seen. */
public final class FaceTest {
    private static final String[] CALLS = {
        "int store(int,int)", "int tell(int,int)", "int weight(int,int)", "int order(int,int)", "int feed(int)",
        "int read()", "int keep(int)", "int use(int)", "int told(int)", "int ruled(int,int)",
        "long row(int,int,int,int)", "long cost(int,int,int)", "long worth(int,int,int)",
        "long act(int,int,int,int)", "int better(int,int)", "int round()", "int best(int)", "long regret(int,int)",
        "int closed(int,int)", "long share(int,int,int)", "long daily(int,int)", "int limits(int,int)",
        "long within(int,int,int)", "int first(int,int)", "int looks()", "int see(int,int)", "int fits(int,int)",
        "int day(int)", "int pay(int)", "int times(int)", "int total(long,long)", "int record(int,int)",
        "long likely(int)", "int would(int,int,int,int)", "int plan(int,int)", "int ends(int)",
        "int judge(int,int,int)", "int image()", "int undo()", "int taken(int)", "int count(int)",
        "int tape(int,int,int)", "int item(int,int,long)", "long peek(int,int)", "int shift(int,int,int,int,int)",
    };

    public static void main(String[] args) throws Exception {
        Checks checks = new Checks("FaceTest");
        Class<?> face = ReorderMind.class;
        checks.that(Modifier.isPublic(face.getModifiers()) && Modifier.isFinal(face.getModifiers()), "public final");

        Set<String> due = new TreeSet<>(Arrays.asList(CALLS));
        Set<String> there = new TreeSet<>();
        Set<String> publicNames = new TreeSet<>();
        for (Method m : face.getDeclaredMethods()) {
            if (Modifier.isPrivate(m.getModifiers())) continue;
            checks.that(Modifier.isPublic(m.getModifiers()) && !Modifier.isStatic(m.getModifiers()), m + " is seen");
            there.add(m.getReturnType() + " " + m.getName()
                    + Arrays.toString(m.getParameterTypes()).replace(", ", ",").replace('[', '(').replace(']', ')'));
            publicNames.add(m.getName());
        }
        checks.that(there.equals(due), "calls are " + there + ", due are " + due);
        for (Method m : face.getDeclaredMethods()) {
            checks.that(!Modifier.isPrivate(m.getModifiers()) || !publicNames.contains(m.getName()),
                    "private " + m.getName() + " bears the name of a public one");
        }

        Constructor<?>[] makers = face.getDeclaredConstructors();
        checks.that(makers.length == 1 && makers[0].getParameterCount() == 0
                && Modifier.isPublic(makers[0].getModifiers()), "one public constructor");

        int constants = 0;
        for (Field f : face.getDeclaredFields()) {
            if (Modifier.isPrivate(f.getModifiers())) continue;
            constants++;
            checks.that(Modifier.isPublic(f.getModifiers()) && Modifier.isStatic(f.getModifiers())
                    && Modifier.isFinal(f.getModifiers()), f + " is seen");
        }
        checks.due("how many constants", constants, 6);
        checks.due("NONE", ReorderMind.NONE, -1);
        checks.due("BAD", ReorderMind.BAD, -2);
        checks.due("STATE", ReorderMind.STATE, -3);
        checks.due("FULL", ReorderMind.FULL, -4);
        checks.due("HUGE", ReorderMind.HUGE, -6);
        checks.due("NO", ReorderMind.NO, Long.MIN_VALUE);
        for (Class<?> inside : face.getDeclaredClasses()) {
            checks.that(Modifier.isStatic(inside.getModifiers()) && !Modifier.isPublic(inside.getModifiers())
                    && !Modifier.isProtected(inside.getModifiers()), inside + " is private or package-visible, static");
        }
        checks.end();
    }
}
