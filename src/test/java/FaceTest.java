import java.lang.reflect.Constructor;
import java.lang.reflect.Field;
import java.lang.reflect.Method;
import java.lang.reflect.Modifier;
import java.util.Arrays;
import java.util.Set;
import java.util.TreeSet;

/** The face of the class is the document's, and nothing else of it can be seen from outside. */
public final class FaceTest {
    private static final String[] FACE = {
        "public LoanRounds()",
        "public static final int LoanRounds.NONE",
        "public int LoanRounds.add(int,int,int,long,int) throws java.lang.IllegalArgumentException,java.lang.IllegalStateException",
        "public int LoanRounds.lend(int,int) throws java.lang.IllegalArgumentException",
        "public boolean LoanRounds.beat(int)",
        "public int LoanRounds.end(int,int) throws java.util.NoSuchElementException,java.lang.IllegalArgumentException",
        "public int LoanRounds.tick(int) throws java.lang.IllegalArgumentException",
        "public boolean LoanRounds.cancel(int)",
        "public boolean LoanRounds.revive(int)",
        "public boolean LoanRounds.set(int,int,int)",
        "public int LoanRounds.task(int,int) throws java.util.NoSuchElementException",
        "public int LoanRounds.first(int)",
        "public int LoanRounds.next()",
        "public int LoanRounds.count(int)",
    };

    private static Set<String> seenFromOutside() {
        Set<String> seen = new TreeSet<>();
        for (Constructor<?> c : LoanRounds.class.getDeclaredConstructors()) {
            if (!Modifier.isPrivate(c.getModifiers())) seen.add(c.toString());
        }
        for (Field f : LoanRounds.class.getDeclaredFields()) {
            if (!Modifier.isPrivate(f.getModifiers())) seen.add(f.toString());
        }
        for (Method m : LoanRounds.class.getDeclaredMethods()) {
            if (!Modifier.isPrivate(m.getModifiers())) seen.add(m.toString());
        }
        return seen;
    }

    private static void nothingPrivateBearsAFaceName(Checks checks) {
        Set<String> open = new TreeSet<>();
        for (Method m : LoanRounds.class.getMethods()) {
            if (m.getDeclaringClass() == LoanRounds.class) open.add(m.getName());
        }
        for (Method m : LoanRounds.class.getDeclaredMethods()) {
            boolean hidden = Modifier.isPrivate(m.getModifiers());
            checks.due("a private " + m.getName(), hidden && open.contains(m.getName()), false);
        }
    }

    private static void staticFieldsAreFinal(Checks checks, Class<?> of) {
        for (Field f : of.getDeclaredFields()) {
            boolean loose = Modifier.isStatic(f.getModifiers()) && !Modifier.isFinal(f.getModifiers());
            checks.due("a static field that is not final, " + f, loose, false);
        }
    }

    public static void main(String[] args) {
        Checks checks = new Checks("FaceTest");
        Set<String> due = new TreeSet<>(Arrays.asList(FACE));
        Set<String> seen = seenFromOutside();
        for (String member : due) checks.due("has " + member, seen.contains(member), true);
        for (String member : seen) checks.due("has also " + member, due.contains(member), true);
        checks.due("public final", LoanRounds.class.getModifiers(), Modifier.PUBLIC | Modifier.FINAL);
        checks.due("NONE", LoanRounds.NONE, -1);
        nothingPrivateBearsAFaceName(checks);
        staticFieldsAreFinal(checks, LoanRounds.class);
        for (Class<?> inside : LoanRounds.class.getDeclaredClasses()) {
            int kind = inside.getModifiers();
            checks.due("static " + inside, Modifier.isStatic(kind), true);
            checks.due("hidden " + inside, Modifier.isPublic(kind) || Modifier.isProtected(kind), false);
            staticFieldsAreFinal(checks, inside);
        }
        checks.close();
    }
}
