import java.io.IOException;
import java.lang.reflect.Field;
import java.lang.reflect.Method;
import java.lang.reflect.Modifier;
import java.nio.file.Files;
import java.nio.file.Path;
import java.util.regex.Matcher;
import java.util.regex.Pattern;

/** README.md tells no wrong answer, and leaves out no call and no constant of the face. */
public final class ReadmeTest {
    private static final Pattern TEXT = Pattern.compile("String text = \"([^\"]*)\";");
    private static final Pattern EXAMPLE = Pattern.compile("(?m)^x\\.(\\w+)\\(([^)]*)\\);\\s*// (-?\\d+):");
    private static final int LEAST_EXAMPLES = 10;

    private static int wrong = 0;

    private static void check(boolean holds, String what) {
        if (!holds) {
            wrong++;
            System.out.println("not so: " + what);
        }
    }

    public static void main(String[] args) throws IOException, ReflectiveOperationException {
        String readme = Files.readString(Path.of("README.md"));
        examples(readme);
        names(readme);
        check(readme.contains(".ci/run"), "README.md says how the tests are run");
        System.out.println("ReadmeTest: " + wrong + " wrong");
        if (wrong != 0) {
            System.exit(1);
        }
    }

    private static void examples(String readme) throws ReflectiveOperationException {
        EdgeOfCard x = new EdgeOfCard();
        Matcher text = TEXT.matcher(readme);
        if (!text.find()) {
            check(false, "README.md has an example of a text");
            return;
        }
        for (char c : text.group(1).toCharArray()) {
            x.type(c);
        }
        int asked = 0;
        Matcher example = EXAMPLE.matcher(readme);
        while (example.find()) {
            long answer = ask(x, example.group(1), example.group(2));
            long due = Long.parseLong(example.group(3));
            check(answer == due, example.group() + " but it answers " + answer);
            asked++;
        }
        check(asked >= LEAST_EXAMPLES, "README.md has examples of calls: " + asked);
    }

    private static long ask(EdgeOfCard x, String name, String numbers) throws ReflectiveOperationException {
        String[] parts = numbers.isEmpty() ? new String[0] : numbers.split(", ");
        Object[] arguments = new Object[parts.length];
        Class<?>[] types = new Class<?>[parts.length];
        for (int i = 0; i < parts.length; i++) {
            arguments[i] = Integer.parseInt(parts[i]);
            types[i] = int.class;
        }
        return ((Number) EdgeOfCard.class.getMethod(name, types).invoke(x, arguments)).longValue();
    }

    private static void names(String readme) throws IllegalAccessException {
        for (Method method : EdgeOfCard.class.getDeclaredMethods()) {
            if (Modifier.isPublic(method.getModifiers())) {
                // So many parameters, too: the table tells them by name.
                int many = method.getParameterCount();
                String numbers = many == 0 ? "" : "\\w+(, \\w+){" + (many - 1) + "}";
                Pattern named = Pattern.compile("`" + method.getName() + "\\(" + numbers + "\\)`");
                check(named.matcher(readme).find(), "README.md names " + method);
            }
        }
        for (Field field : EdgeOfCard.class.getFields()) {
            String named = "`" + field.getName() + "` (" + field.getInt(null);
            check(readme.contains(named), "README.md tells " + field.getName() + " and its number");
        }
    }
}
