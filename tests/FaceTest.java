import java.lang.reflect.Constructor;
import java.lang.reflect.Field;
import java.lang.reflect.Method;
import java.lang.reflect.Modifier;
import java.util.Arrays;
import java.util.Set;
import java.util.TreeSet;

/** The public face: the document's constants, constructor and methods, and no other. */
final class FaceTest {
    private static final String[] METHODS = {"reset 2", "setCapacity 2", "appendPreference 2", "clearPreferences 1",
        "preferenceAt 2", "firstPost 1", "secondPost 1", "assign 2", "postOf 1", "size 0", "isParetoOptimal 0",
        "save 0", "swapSaved 0", "marginOverSaved 0", "unpopularityMargin 0", "challengerPost 1",
        "adoptChallenger 0", "popularCount 0", "greatestPopularSize 0", "adoptPopular 1", "adoptSerial 1", "undo 0"};

    public static void main(String[] args) {
        Class<?> face = PopularMatchings.class;
        same("class", face.getModifiers() == (Modifier.PUBLIC | Modifier.FINAL));
        same("constructors", constructorsOf(face).equals(Set.of("public 0")));
        same("methods " + methodsOf(face), methodsOf(face).equals(new TreeSet<>(Arrays.asList(METHODS))));
        same("fields " + fieldsOf(face), fieldsOf(face).equals(Set.of("INVALID_ARGUMENT", "INVALID_STATE",
                "LIMIT_REACHED", "NOT_FOUND", "NONE")));
        Check.due("INVALID_ARGUMENT", PopularMatchings.INVALID_ARGUMENT, -101);
        Check.due("INVALID_STATE", PopularMatchings.INVALID_STATE, -102);
        Check.due("LIMIT_REACHED", PopularMatchings.LIMIT_REACHED, -103);
        Check.due("NOT_FOUND", PopularMatchings.NOT_FOUND, -104);
        Check.due("NONE", PopularMatchings.NONE, -1);
        Check.end("FaceTest");
    }

    private static void same(String what, boolean holds) {
        Check.due("face: " + what, holds ? 1 : 0, 1);
    }

    private static Set<String> constructorsOf(Class<?> face) {
        Set<String> found = new TreeSet<>();
        for (Constructor<?> made : face.getDeclaredConstructors()) {
            found.add(Modifier.toString(made.getModifiers()) + " " + made.getParameterCount());
        }
        return found;
    }

    /** Of what is not private: it must be public, not static, and answer an int to ints. */
    private static Set<String> methodsOf(Class<?> face) {
        Set<String> found = new TreeSet<>();
        for (Method method : face.getDeclaredMethods()) {
            boolean ints = method.getReturnType() == int.class
                    && Arrays.stream(method.getParameterTypes()).allMatch(type -> type == int.class);
            if (!Modifier.isPrivate(method.getModifiers())) {
                boolean plain = ints && method.getModifiers() == Modifier.PUBLIC;
                found.add(method.getName() + " " + method.getParameterCount() + (plain ? "" : " of another form"));
            }
        }
        return found;
    }

    private static Set<String> fieldsOf(Class<?> face) {
        Set<String> found = new TreeSet<>();
        for (Field field : face.getDeclaredFields()) {
            int constant = Modifier.PUBLIC | Modifier.STATIC | Modifier.FINAL;
            if (!Modifier.isPrivate(field.getModifiers())) {
                boolean plain = field.getType() == int.class && field.getModifiers() == constant;
                found.add(field.getName() + (plain ? "" : " of another form"));
            }
        }
        return found;
    }
}
