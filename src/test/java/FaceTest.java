import java.io.IOException;
import java.lang.reflect.Constructor;
import java.lang.reflect.Field;
import java.lang.reflect.Method;
import java.lang.reflect.Modifier;
import java.lang.reflect.Parameter;
import java.nio.file.Files;
import java.nio.file.Path;
import java.util.ArrayList;
import java.util.Arrays;
import java.util.List;
import java.util.Set;
import java.util.TreeSet;
import java.util.regex.Matcher;
import java.util.regex.Pattern;

/** The public face: the class, its constants, its constructor and its methods as the document has them, and nothing beside them. */
public final class FaceTest {
    private static final String FACE = "The public face";
    private static final Path SOURCE = Path.of("src", "main", "java", "VineyardBlends.java");
    /** By promises, from promise 2 on. */
    private static final String[] CALLS = {
        "bring", "sweeten", "move", "lot", "grain", "share", "bits", "recipe", "blend", "ifBlend", "mostLitres", "partsFor",
        "score", "panel", "ranked", "months", "bottle", "set", "account", "count", "undo",
        "rule", "dropRule", "type", "clearText", "fault", "read"
    };

    public static void main(String[] args) throws IOException, IllegalAccessException {
        Due due = new Due("the public face");
        shape(due);
        constants(due);
        constructor(due);
        methods(due);
        headings(due);
        due.end();
    }

    private static void shape(Due due) {
        due.sentence("Promises 1 to 28", FACE, "java public final class VineyardBlends {");
        due.is("public and final", VineyardBlends.class.getModifiers(), Modifier.PUBLIC | Modifier.FINAL);
        due.is("its package", VineyardBlends.class.getPackageName(), "");
        same(due, "constants", openConstants(), Set.of("INVALID_ARGUMENT", "NOT_POSSIBLE", "LIMIT_REACHED", "NOT_FOUND"));
        same(due, "constructors", constructors(), Set.of("0"));
        same(due, "methods", openMethods(), Set.of(
                "int bring 6", "int sweeten 2", "int move 2", "int lot 2", "int grain 3", "int share 3", "long bits 1",
                "int recipe 2", "int blend 2", "int ifBlend 2", "int mostLitres 0", "int partsFor 4",
                "int score 3", "int panel 2", "int ranked 1",
                "int months 1", "int bottle 3", "int set 2", "int account 1", "int count 1", "int undo 0",
                "int rule 2", "int dropRule 1", "int type 1", "int clearText 0", "int fault 1", "int read 0"));
    }

    private static void same(Due due, String what, Set<String> got, Set<String> want) {
        Set<String> tooMany = new TreeSet<>(got);
        tooMany.removeAll(want);
        Set<String> missing = new TreeSet<>(want);
        missing.removeAll(got);
        due.is(what + " that should not be there " + tooMany, tooMany.size(), 0);
        due.is(what + " that are missing " + missing, missing.size(), 0);
    }

    private static Set<String> openConstants() {
        Set<String> names = new TreeSet<>();
        for (Field field : VineyardBlends.class.getDeclaredFields()) {
            if (!Modifier.isPrivate(field.getModifiers())) {
                names.add(field.getName());
            }
        }
        return names;
    }

    private static Set<String> constructors() {
        Set<String> names = new TreeSet<>();
        for (Constructor<?> constructor : VineyardBlends.class.getDeclaredConstructors()) {
            names.add("" + constructor.getParameterCount());
        }
        return names;
    }

    private static Set<String> openMethods() {
        Set<String> names = new TreeSet<>();
        for (Method method : VineyardBlends.class.getDeclaredMethods()) {
            if (!Modifier.isPrivate(method.getModifiers())) {
                names.add(method.getReturnType() + " " + method.getName() + " " + method.getParameterCount());
            }
        }
        return names;
    }

    private static void constants(Due due) throws IllegalAccessException {
        int value = -1;
        for (Field field : VineyardBlends.class.getDeclaredFields()) {
            if (Modifier.isPublic(field.getModifiers())) {
                due.sentence("Promises 1 to 28", FACE, Modifier.toString(field.getModifiers()) + " " + field.getType() + " " + field.getName()
                        + " = " + field.getInt(null) + ";");
                due.is(field.getName(), field.getInt(null), value);
                value--;
            }
        }
    }

    private static void constructor(Due due) {
        Constructor<?> made = VineyardBlends.class.getDeclaredConstructors()[0];
        due.sentence("Promise 1", FACE, Modifier.toString(made.getModifiers()) + " " + made.getName() + "();");
        due.is("modifiers", made.getModifiers(), Modifier.PUBLIC);
        due.sentence("Promise 1", made.getName() + "():");
        due.is("lots of a new cellar", new VineyardBlends().count(0), 0);
    }

    private static void methods(Due due) {
        for (int i = 0; i < CALLS.length; i++) {
            String promise = "Promise " + (i + 2);
            for (Method method : VineyardBlends.class.getDeclaredMethods()) {
                if (method.getName().equals(CALLS[i])) {
                    due.sentence(promise, FACE, Modifier.toString(method.getModifiers()) + " " + signature(method) + ";");
                    due.is("modifiers", method.getModifiers(), Modifier.PUBLIC);
                    due.sentence(promise, signature(method) + ":");
                    due.is("exceptions", method.getExceptionTypes().length, 0);
                }
            }
        }
    }

    private static String signature(Method method) {
        List<String> parameters = new ArrayList<>();
        for (Parameter parameter : method.getParameters()) {
            parameters.add(parameter.getType() + " " + parameter.getName());
        }
        return method.getReturnType() + " " + method.getName() + "(" + String.join(", ", parameters) + ")";
    }

    /** The source has the document's headings, each ahead of its calls. */
    private static void headings(Due due) throws IOException {
        Pattern mark = Pattern.compile("^    (?:// (---- .*)|public \\w+ (\\w+)\\(.*)$", Pattern.MULTILINE);
        Matcher marks = mark.matcher(Files.readString(SOURCE));
        String heading = "";
        List<String> calls = new ArrayList<>();
        int found = 0;
        while (marks.find()) {
            if (marks.group(2) != null) {
                calls.add(marks.group(2));
                continue;
            }
            found += heading(due, heading, calls);
            heading = marks.group(1);
            calls.clear();
        }
        found += heading(due, heading, calls);
        due.is("calls behind headings", found, CALLS.length);
    }

    private static int heading(Due due, String heading, List<String> calls) {
        if (!heading.isEmpty() && !calls.isEmpty()) {
            due.sentence("Promises 2 to 28", "Changes and errors",
                    "Ahead of the calls " + String.join(", ", calls) + " the interface says: " + heading + ".");
            due.is("which are calls of the face", Arrays.asList(CALLS).containsAll(calls) ? 1 : 0, 1);
        }
        return calls.size();
    }
}
