import java.lang.reflect.Constructor;
import java.lang.reflect.Field;
import java.lang.reflect.Method;
import java.lang.reflect.Modifier;
import java.util.List;
import java.util.Set;
import java.util.TreeSet;

/** The public face: just the members of the document, with their throws clauses. */
public final class FaceTest {
    private static final String B = "IndexOutOfBoundsException";
    private static final String A = "IllegalArgumentException";
    private static final String S = "IllegalStateException";

    public static void main(String[] args) {
        Check check = new Check();
        Set<String> due = new TreeSet<>(List.of(
                "int roll(int, int) " + A + " " + S,
                "boolean step(int, int) " + B + " " + A + " " + S,
                "int endTurn() " + S,
                "int carry(int, int, int) " + B + " " + S,
                "int offer() " + S, "int take() " + S, "int drop() " + S, "int newGame() " + S,
                "int append(int) " + A + " " + S,
                "int clearBuffer()", "int firstError()", "int play() " + A,
                "boolean hasStopped()", "int stoppedPart() " + S, "int undo() " + S,
                "int keep()", "int restore() " + S, "int savedStates()", "int mover()", "int phase()",
                "int diceLeft()", "int dieLeft(int) " + B, "int piecesOn(int, int) " + B,
                "int onBar(int) " + B, "int borneOff(int) " + B, "int pips(int) " + B,
                "int blots(int) " + B, "int blockade(int) " + B, "int stake()", "int cubeOf()",
                "int score(int) " + B, "int hits(int) " + B, "int whyNoStep(int, int) " + B + " " + A,
                "int possibleSteps()", "int reach()", "int plays()", "int playsByOrders()",
                "int playsWith(int, int) " + A, "int shots(int) " + B, "int shotsByKinds(int) " + B,
                "int entering(int) " + B, "int blotsBehind(int, int) " + B + " " + A + " " + S,
                "double lead()", "long digest()"));
        Set<String> found = new TreeSet<>();
        Set<String> names = new TreeSet<>();
        for (Method method : MagpieRuns.class.getDeclaredMethods()) {
            if (Modifier.isPrivate(method.getModifiers())) {
                continue;
            }
            found.add(described(method));
            names.add(method.getName());
            check.is(method + " is public alone", method.getModifiers(), Modifier.PUBLIC);
        }
        check.is("the methods", found, due);
        check.is("the class", MagpieRuns.class.getModifiers(), Modifier.PUBLIC | Modifier.FINAL);
        Constructor<?>[] constructors = MagpieRuns.class.getDeclaredConstructors();
        check.is("one constructor", constructors.length, 1);
        check.is("it is public", constructors[0].getModifiers(), Modifier.PUBLIC);
        check.is("it has no parameters", constructors[0].getParameterCount(), 0);
        privateOnly(check, names);
        check.end("FaceTest");
    }

    private static String described(Method method) {
        StringBuilder text = new StringBuilder(method.getReturnType().getSimpleName());
        text.append(' ').append(method.getName()).append('(');
        for (int i = 0; i < method.getParameterCount(); i++) {
            text.append(i == 0 ? "" : ", ").append(method.getParameterTypes()[i].getSimpleName());
        }
        text.append(')');
        for (Class<?> exception : method.getExceptionTypes()) {
            text.append(' ').append(exception.getSimpleName());
        }
        return text.toString();
    }

    /** All else is private; no other method bears a name of the face; static fields are final. */
    private static void privateOnly(Check check, Set<String> names) {
        for (Field field : MagpieRuns.class.getDeclaredFields()) {
            check.is(field + " is private", Modifier.isPrivate(field.getModifiers()), true);
            finalIfStatic(check, field);
        }
        for (Method method : MagpieRuns.class.getDeclaredMethods()) {
            boolean hidden = Modifier.isPrivate(method.getModifiers());
            check.is(method + " has its own name", hidden && names.contains(method.getName()), false);
        }
        for (Class<?> inside : MagpieRuns.class.getDeclaredClasses()) {
            check.is(inside + " is private and static",
                    inside.getModifiers() & (Modifier.PRIVATE | Modifier.STATIC),
                    Modifier.PRIVATE | Modifier.STATIC);
            for (Field field : inside.getDeclaredFields()) {
                finalIfStatic(check, field);
            }
            for (Method method : inside.getDeclaredMethods()) {
                check.is(method + " has its own name", names.contains(method.getName()), false);
                check.is(method + " has few parameters", method.getParameterCount() <= 7, true);
            }
        }
    }

    private static void finalIfStatic(Check check, Field field) {
        boolean loose = Modifier.isStatic(field.getModifiers()) && !Modifier.isFinal(field.getModifiers());
        check.is(field + " is final if static", loose, false);
    }
}
