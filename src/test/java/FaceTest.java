import java.io.IOException;
import java.lang.reflect.Field;
import java.lang.reflect.Method;
import java.lang.reflect.Modifier;
import java.nio.file.Files;
import java.nio.file.Path;
import java.util.Arrays;
import java.util.Set;
import java.util.TreeSet;
import java.util.regex.Matcher;
import java.util.regex.Pattern;

/** The public face is the document's and no other; the source keeps to what of LANGUAGE.md a search can see. */
public final class FaceTest {
    private static final Set<String> METHODS = new TreeSet<>(Arrays.asList(
        "int type(int)", "int clear()", "int card()", "int line(int)", "int word(int,int)", "int writes()",
        "int signs()", "int breaks()", "int omits()", "int smaller(int)", "int turnsOver()", "int undo()",
        "int now(int)", "int fill(int,int,int)", "int greatest()", "int even(int)", "int kept(int,int)",
        "int telegram(int,int)", "int begun(int,int)", "long odds(int,int,int)", "int saw(int,int)", "int forget()",
        "int sizes()", "int two(int)", "int mark(int,int)", "int keep(int)", "int back(int)", "int count(int)",
        "long trace()"));
    private static final Set<String> CONSTANTS = new TreeSet<>(Arrays.asList(
        "BAD=-1", "STATE=-2", "FULL=-3", "NONE=-9", "NO=-1000000"));
    private static final Pattern FORBIDDEN = Pattern.compile(
        "\\b(throw|throws|try|catch|synchronized|assert|import|package|volatile|transient)\\b|->|::|Exact\\b"
            + "|static \\{|[^\\x00-\\x7f]");

    /** What stands ahead of a dot and begins with a capital: the library, by rule 4 (the class needs no more of it). */
    private static final Pattern LIBRARY = Pattern.compile("\\b([A-Z][a-z]\\w*\\.\\w+)");
    private static final Set<String> USED = new TreeSet<>(Arrays.asList(
        "Integer.bitCount", "Math.max", "Math.min", "System.arraycopy"));
    /** A method's or constructor's head, at the depth of the class or of one inside it. */
    private static final Pattern HEAD = Pattern.compile("^( {4}| {8})(\\w+ )*\\w+\\(.*\\{$");
    private static final int LONGEST_METHOD = 60;
    private static final int MOST_PARAMETERS = 7;
    private static final int MOST_FIELDS = 20;

    private static int wrong = 0;

    private static void check(boolean holds, String what) {
        if (!holds) {
            wrong++;
            System.out.println("not so: " + what);
        }
    }

    public static void main(String[] args) throws IOException, IllegalAccessException {
        methods();
        fields();
        classes();
        source();
        library();
        lengths();
        System.out.println("FaceTest: " + wrong + " wrong");
        if (wrong != 0) {
            System.exit(1);
        }
    }

    private static void methods() {
        Set<String> found = new TreeSet<>();
        Set<String> names = new TreeSet<>();
        for (Method method : EdgeOfCard.class.getDeclaredMethods()) {
            int modifiers = method.getModifiers();
            if (Modifier.isPublic(modifiers)) {
                String types = Arrays.toString(method.getParameterTypes()).replace(" ", "");
                found.add(method.getReturnType() + " " + method.getName() + "("
                    + types.substring(1, types.length() - 1) + ")");
                names.add(method.getName());
                check(!Modifier.isStatic(modifiers), method.getName() + " is not static");
            } else {
                check(Modifier.isPrivate(modifiers), method.getName() + " is private");
            }
        }
        check(found.equals(METHODS), "the methods are the document's: " + found);
        for (Class<?> inside : EdgeOfCard.class.getDeclaredClasses()) {
            for (Method method : inside.getDeclaredMethods()) {
                check(!names.contains(method.getName()), method.getName() + " is a name of the face only");
            }
        }
        for (Method method : EdgeOfCard.class.getDeclaredMethods()) {
            check(Modifier.isPublic(method.getModifiers()) || !names.contains(method.getName()),
                method.getName() + " is a name of the face only");
        }
        check(EdgeOfCard.class.getDeclaredConstructors().length == 1, "one constructor");
        check(EdgeOfCard.class.getConstructors().length == 1, "a public constructor");
        check(Modifier.isFinal(EdgeOfCard.class.getModifiers()), "the class is final");
    }

    private static void fields() throws IllegalAccessException {
        Set<String> found = new TreeSet<>();
        for (Field field : EdgeOfCard.class.getDeclaredFields()) {
            int modifiers = field.getModifiers();
            if (Modifier.isPublic(modifiers)) {
                found.add(field.getName() + "=" + field.getInt(null));
            } else {
                check(Modifier.isPrivate(modifiers), field.getName() + " is private");
            }
            check(!Modifier.isStatic(modifiers) || Modifier.isFinal(modifiers), field.getName() + " is final");
        }
        check(found.equals(CONSTANTS), "the constants are the document's: " + found);
    }

    private static void classes() {
        Class<?>[] inside = EdgeOfCard.class.getDeclaredClasses();
        check(inside.length <= 12, "some twelve classes");
        sizes(EdgeOfCard.class);
        for (Class<?> one : inside) {
            sizes(one);
            int modifiers = one.getModifiers();
            check(Modifier.isStatic(modifiers), one + " is static");
            check(!Modifier.isPublic(modifiers) && !Modifier.isProtected(modifiers), one + " is not of the face");
        }
    }

    private static void sizes(Class<?> one) {
        long states = Arrays.stream(one.getDeclaredFields())
            .filter(field -> !Modifier.isStatic(field.getModifiers())).count();
        check(states <= MOST_FIELDS, one + " has some twenty fields");
        for (Method method : one.getDeclaredMethods()) {
            check(method.getParameterCount() <= MOST_PARAMETERS, method + " takes at most seven parameters");
        }
    }

    private static String code() throws IOException {
        String source = Files.readString(Path.of("src/main/java/EdgeOfCard.java"));
        return source.replaceAll("(?s)/\\*.*?\\*/", "").replaceAll("//[^\n]*", "");
    }

    private static void source() throws IOException {
        Matcher found = FORBIDDEN.matcher(code());
        while (found.find()) {
            check(false, "no '" + found.group() + "' in the source");
        }
    }

    private static void library() throws IOException {
        Matcher found = LIBRARY.matcher(code());
        while (found.find()) {
            check(USED.contains(found.group(1)), found.group(1) + " is of the library that the class may use");
        }
    }

    private static void lengths() throws IOException {
        String[] lines = code().split("\n");
        int methods = 0;
        for (int i = 0; i < lines.length; i++) {
            Matcher head = HEAD.matcher(lines[i]);
            if (head.matches()) {
                methods++;
                int end = i;
                while (end < lines.length && !lines[end].equals(head.group(1) + "}")) {
                    end++;
                }
                check(end - i < LONGEST_METHOD, lines[i].trim() + " is short");
            }
        }
        check(methods > METHODS.size(), "the methods were found: " + methods);
    }
}
