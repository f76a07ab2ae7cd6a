import java.lang.reflect.Constructor;
import java.lang.reflect.Field;
import java.lang.reflect.Method;
import java.lang.reflect.Modifier;
import java.util.Arrays;
import java.util.Set;
import java.util.TreeSet;
import java.util.stream.Collectors;

/** The public face, as the document lists it, and nothing beside it (rules 1 and 5 of LANGUAGE.md). */
final class FaceTest {
    private static final String I = "IllegalArgumentException";
    private static final String S = "IllegalStateException";
    private static final String X = "IndexOutOfBoundsException";

    private static final String[] FACE = {
        "int append(int) " + I + " " + S,
        "int clearText()",
        "int errorPosition()",
        "int load() " + S,
        "int about(int) " + I,
        "int laneOf(int,int) " + X + " " + I,
        "int vehicle(int,int,int) " + X + " " + I,
        "int why(int) " + X,
        "int setting(int) " + I,
        "int lane() " + S,
        "int arrive(int,int,boolean,boolean) " + X + " " + I + " " + S,
        "int loop(int,boolean) " + X,
        "int mend(int) " + X + " " + S,
        "int run(int) " + I,
        "int set(int,int) " + I,
        "int undo() " + S,
        "int emptyIn(int) " + X,
        "int throughIn(int,int) " + X,
        "int bestLane(int) " + I,
        "int coming(int,int) " + I,
        "int hitsIn(int) " + X,
        "int runScript(int,long) " + I,
        "int simulate(long,int) " + I,
        "int save(int) " + X,
        "int restore(int) " + X + " " + S,
    };

    public static void main(String[] args) throws Exception {
        Set<String> want = new TreeSet<>(Arrays.asList(FACE));
        Set<String> got = new TreeSet<>();
        Set<String> hidden = new TreeSet<>();
        Set<String> open = new TreeSet<>();
        for (Method m : LorryArms.class.getDeclaredMethods()) {
            if (m.isSynthetic()) {
                continue;
            }
            if (Modifier.isPrivate(m.getModifiers())) {
                hidden.add(m.getName());
            } else {
                got.add(told(m));
                open.add(m.getName());
            }
        }
        Due.same("the methods", got.toString(), want.toString());
        hidden.retainAll(open);
        Due.same("the private methods that bear a public one's name", hidden.toString(), "[]");
        fields();
        constructors();
        int modifiers = LorryArms.class.getModifiers();
        Due.is("public and final", 1, () -> Modifier.isPublic(modifiers) && Modifier.isFinal(modifiers) ? 1 : 0);
        Due.is("NONE", -1, () -> LorryArms.NONE);
        Due.end("FaceTest");
    }

    private static String told(Method m) {
        String parameters = Arrays.stream(m.getParameterTypes()).map(Class::getName).collect(Collectors.joining(","));
        String thrown = Arrays.stream(m.getExceptionTypes()).map(c -> " " + c.getSimpleName())
                .collect(Collectors.joining());
        String kind = Modifier.isPublic(m.getModifiers()) && !Modifier.isStatic(m.getModifiers()) ? "" : "not public ";
        return kind + m.getReturnType() + " " + m.getName() + "(" + parameters + ")" + thrown;
    }

    private static void fields() {
        Set<String> open = new TreeSet<>();
        Set<String> loose = new TreeSet<>();
        for (Field f : LorryArms.class.getDeclaredFields()) {
            if (!Modifier.isPrivate(f.getModifiers())) {
                open.add(Modifier.toString(f.getModifiers()) + " " + f.getType() + " " + f.getName());
            }
            if (Modifier.isStatic(f.getModifiers()) && !Modifier.isFinal(f.getModifiers())) {
                loose.add(f.getName());
            }
        }
        Due.same("the open fields", open.toString(), "[public static final int NONE]");
        Due.same("the static fields that are not final", loose.toString(), "[]");
    }

    private static void constructors() {
        Set<String> open = new TreeSet<>();
        for (Constructor<?> c : LorryArms.class.getDeclaredConstructors()) {
            open.add(c.toString());
        }
        Due.same("the constructors", open.toString(), "[public LorryArms()]");
    }
}
