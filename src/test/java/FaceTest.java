import java.lang.reflect.Constructor;
import java.lang.reflect.Field;
import java.lang.reflect.Method;
import java.lang.reflect.Modifier;
import java.util.Arrays;
import java.util.Set;
import java.util.TreeSet;

/** The face is the document's, and there is nothing beside it. */
public final class FaceTest {
    private static final String[] FACE = {
        "int tray(int, int, int) throws IllegalArgumentException",
        "int lay(long) throws IllegalArgumentException",
        "int mix(int, int) throws IllegalArgumentException",
        "long setGoal()",
        "boolean setFree(int, boolean) throws IndexOutOfBoundsException",
        "int setWeight(int, int) throws IndexOutOfBoundsException, IllegalArgumentException",
        "int setLimit(int) throws IllegalArgumentException",
        "int move(int, int) throws IllegalArgumentException, IllegalStateException",
        "int undo(int) throws IllegalArgumentException",
        "int setMacro(int, long) throws IndexOutOfBoundsException, IllegalArgumentException",
        "int play(int, int) throws IndexOutOfBoundsException, IllegalArgumentException, NoSuchElementException",
        "long keep(int) throws IndexOutOfBoundsException",
        "int restore(int) throws IndexOutOfBoundsException, IllegalStateException",
        "int tileAt(int) throws IndexOutOfBoundsException",
        "long rank()",
        "int inversions()",
        "boolean reaches() throws IllegalStateException",
        "int estimate(int) throws IllegalArgumentException",
        "int solve(int) throws IllegalArgumentException, IllegalStateException",
        "int deepen(int) throws IllegalArgumentException, IllegalStateException",
        "int both() throws IllegalStateException",
        "int searched(int) throws IllegalArgumentException",
        "int wayAt(int) throws NoSuchElementException",
        "int hint() throws IllegalStateException",
        "int far(int) throws IllegalArgumentException, IllegalStateException",
        "int onlyWay(int) throws IllegalArgumentException, IllegalStateException",
        "boolean isFair(int) throws IllegalArgumentException, IllegalStateException",
        "int part(int) throws IllegalArgumentException, IllegalStateException",
        "double meanWeight()",
        "float settled()",
        "int errors()",
    };
    private static final String[] CONSTANTS = {
        "NONE=-1", "UP=0", "LEFT=1", "RIGHT=2", "DOWN=3",
        "NOTHING=0", "DISPLACED=1", "WAYS=2", "PAIRS=3", "PARTS=4",
    };

    public static void main(String[] args) throws IllegalAccessException {
        methods();
        constants();
        Check.holds("the class is public and final",
                (Slidingtray.class.getModifiers() & (Modifier.PUBLIC | Modifier.FINAL))
                        == (Modifier.PUBLIC | Modifier.FINAL));
        Constructor<?>[] constructors = Slidingtray.class.getDeclaredConstructors();
        Check.same("constructors", constructors.length, 1);
        Check.holds("the constructor is public and takes nothing",
                Modifier.isPublic(constructors[0].getModifiers()) && constructors[0].getParameterCount() == 0);
        Check.end();
    }

    private static void methods() {
        Set<String> want = new TreeSet<>(Arrays.asList(FACE));
        Set<String> names = new TreeSet<>();
        for (String line : FACE) {
            names.add(line.substring(line.indexOf(' ') + 1, line.indexOf('(')));
        }
        Set<String> got = new TreeSet<>();
        for (Method method : Slidingtray.class.getDeclaredMethods()) {
            if (Modifier.isPrivate(method.getModifiers())) {
                Check.holds("private " + method.getName() + " bears a name of the face",
                        !names.contains(method.getName()));
                continue;
            }
            Check.holds(method.getName() + " is public and not static",
                    Modifier.isPublic(method.getModifiers()) && !Modifier.isStatic(method.getModifiers()));
            got.add(lineOf(method));
        }
        for (String line : want) {
            Check.holds("the face lacks " + line, got.contains(line));
        }
        for (String line : got) {
            Check.holds("the face has too much: " + line, want.contains(line));
        }
    }

    private static String lineOf(Method method) {
        return method.getReturnType().getSimpleName() + " " + method.getName()
                + "(" + namesOf(method.getParameterTypes()) + ")"
                + (method.getExceptionTypes().length == 0 ? "" : " throws " + namesOf(method.getExceptionTypes()));
    }

    private static String namesOf(Class<?>[] types) {
        StringBuilder names = new StringBuilder();
        for (Class<?> type : types) {
            names.append(names.length() == 0 ? "" : ", ").append(type.getSimpleName());
        }
        return names.toString();
    }

    private static void constants() throws IllegalAccessException {
        Set<String> got = new TreeSet<>();
        for (Field field : Slidingtray.class.getDeclaredFields()) {
            if (Modifier.isPrivate(field.getModifiers())) continue;
            Check.holds(field.getName() + " is a public constant",
                    Modifier.isPublic(field.getModifiers()) && Modifier.isStatic(field.getModifiers())
                            && Modifier.isFinal(field.getModifiers()) && field.getType() == int.class);
            got.add(field.getName() + "=" + field.getInt(null));
        }
        Check.holds("the constants are those of the document: " + got,
                got.equals(new TreeSet<>(Arrays.asList(CONSTANTS))));
    }
}
