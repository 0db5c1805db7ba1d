import java.io.IOException;
import java.lang.reflect.Field;
import java.lang.reflect.Method;
import java.lang.reflect.Modifier;
import java.lang.reflect.Parameter;
import java.nio.file.Files;
import java.nio.file.Path;
import java.util.ArrayList;
import java.util.List;

/** README.md names every constant, call and test, and its example answers what it says. */
public final class ReadmeTest {
    private final Due due = new Due("README.md");
    private final String page;

    private ReadmeTest() throws IOException {
        page = Files.readString(Path.of("README.md"));
    }

    public static void main(String[] args) throws IOException, IllegalAccessException {
        ReadmeTest test = new ReadmeTest();
        test.face();
        test.tests();
        test.example();
        test.due.end();
    }

    private void names(String words) {
        due.is("README.md names " + words, page.contains(words) ? 1 : 0, 1);
    }

    private void face() throws IllegalAccessException {
        names("new VineyardBlends()");
        names("at most 512 calls");
        for (Field field : VineyardBlends.class.getDeclaredFields()) {
            if (Modifier.isPublic(field.getModifiers())) {
                names("| `" + field.getName() + "` | " + field.getInt(null) + " |");
            }
        }
        for (Method method : VineyardBlends.class.getDeclaredMethods()) {
            if (Modifier.isPublic(method.getModifiers())) {
                List<String> parameters = new ArrayList<>();
                for (Parameter parameter : method.getParameters()) {
                    parameters.add(parameter.getType() + " " + parameter.getName());
                }
                names("| `" + method.getName() + "(" + String.join(", ", parameters) + ")`" + (isChange(method.getName()) ? " * |" : " |"));
            }
        }
    }

    private static boolean isChange(String call) {
        return List.of("bring", "sweeten", "move", "recipe", "blend", "score", "months", "bottle", "set", "read", "dropRule").contains(call);
    }

    private void tests() throws IOException {
        try (var files = Files.list(Path.of("src", "test", "java"))) {
            for (Path file : files.sorted().toList()) {
                String name = file.getFileName().toString().replace(".java", "");
                if (name.endsWith("Test")) {
                    names("`" + name + "`");
                }
            }
        }
        names(".ci/run");
    }

    private void example() {
        VineyardBlends cellar = new VineyardBlends();
        line("int first = cellar.bring(100, 1, 2020, 3, 1200, 60);", cellar.bring(100, 1, 2020, 3, 1200, 60), 0);
        line("int second = cellar.bring(50, 2, 2021, 3, 1000, 80);", cellar.bring(50, 2, 2021, 3, 1000, 80), 1);
        line("cellar.recipe(first, 3);", cellar.recipe(0, 3), 1);
        line("cellar.recipe(second, 2);", cellar.recipe(1, 2), 2);
        line("int blend = cellar.blend(40, 1);", cellar.blend(40, 1), 2);
        line("int bottles = cellar.bottle(blend, 20, 75);", cellar.bottle(2, 20, 75), 26);
        line("int tooMuch = cellar.bottle(blend, 21, 75);", cellar.bottle(2, 21, 75), -2);
        line("int states = cellar.undo();", cellar.undo(), 3);
        names("`origin 1 least 60;year 2020 least 5;alcohol most 1150;sugar most 40;`");
        due.is("the rules of its text", Cellars.rules(cellar, "origin 1 least 60;year 2020 least 5;alcohol most 1150;sugar most 40;"), 4);
    }

    /** The line stands on the page with its answer, the first number behind it. */
    private void line(String line, int got, int want) {
        due.is(line, got, want);
        names(line);
        int place = page.indexOf(line);
        int end = page.indexOf('\n', Math.max(0, place));
        String remark = place < 0 || end < 0 ? "" : page.substring(place + line.length(), end);
        due.is("the answer that README.md tells of " + line, remark.matches(" *// " + want + "\\b.*") ? 1 : 0, 1);
    }
}
