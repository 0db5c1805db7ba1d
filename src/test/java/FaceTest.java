import java.lang.reflect.Constructor;
import java.lang.reflect.Field;
import java.lang.reflect.Method;
import java.lang.reflect.Modifier;
import java.util.Set;
import java.util.TreeSet;

/** The public face: the class, its constants, its constructor and its methods, and nothing beside them. */
public final class FaceTest {
    public static void main(String[] args) {
        Due due = new Due("the public face");
        due.is("public and final", VineyardBlends.class.getModifiers(), Modifier.PUBLIC | Modifier.FINAL);
        due.is("INVALID_ARGUMENT", VineyardBlends.INVALID_ARGUMENT, -1);
        due.is("NOT_POSSIBLE", VineyardBlends.NOT_POSSIBLE, -2);
        due.is("LIMIT_REACHED", VineyardBlends.LIMIT_REACHED, -3);
        due.is("NOT_FOUND", VineyardBlends.NOT_FOUND, -4);
        same(due, "constants", constants(), Set.of("INVALID_ARGUMENT", "NOT_POSSIBLE", "LIMIT_REACHED", "NOT_FOUND"));
        same(due, "constructors", constructors(), Set.of("0"));
        same(due, "methods", methods(), Set.of(
                "int bring 6", "int sweeten 2", "int move 2", "int lot 2", "int grain 3", "int share 3", "long bits 1",
                "int recipe 2", "int blend 2", "int ifBlend 2", "int mostLitres 0", "int partsFor 4",
                "int score 3", "int panel 2", "int ranked 1",
                "int months 1", "int bottle 3", "int set 2", "int account 1", "int count 1", "int undo 0",
                "int rule 2", "int dropRule 1", "int type 1", "int clearText 0", "int fault 1", "int read 0"));
        due.end();
    }

    private static void same(Due due, String what, Set<String> got, Set<String> want) {
        Set<String> tooMany = new TreeSet<>(got);
        tooMany.removeAll(want);
        Set<String> missing = new TreeSet<>(want);
        missing.removeAll(got);
        due.is(what + " that should not be there " + tooMany, tooMany.size(), 0);
        due.is(what + " that are missing " + missing, missing.size(), 0);
    }

    private static Set<String> constants() {
        Set<String> names = new TreeSet<>();
        for (Field field : VineyardBlends.class.getDeclaredFields()) {
            if (!Modifier.isPrivate(field.getModifiers())) {
                names.add(field.getName());
            }
        }
        return names;
    }

    private static Set<String> constructors() {
        Set<String> names = new TreeSet<>();
        for (Constructor<?> constructor : VineyardBlends.class.getDeclaredConstructors()) {
            names.add("" + constructor.getParameterCount());
        }
        return names;
    }

    private static Set<String> methods() {
        Set<String> names = new TreeSet<>();
        for (Method method : VineyardBlends.class.getDeclaredMethods()) {
            if (!Modifier.isPrivate(method.getModifiers())) {
                names.add(method.getReturnType() + " " + method.getName() + " " + method.getParameterCount());
            }
        }
        return names;
    }
}
