import java.io.IOException;
import java.lang.reflect.InvocationTargetException;
import java.lang.reflect.Method;
import java.lang.reflect.Modifier;
import java.nio.charset.StandardCharsets;
import java.nio.file.Files;
import java.nio.file.Path;
import java.util.regex.Matcher;
import java.util.regex.Pattern;

/** README.md: its example answers what it says, and it names each call. It is run where README.md lies. */
public final class ReadmeTest {
    private static final Pattern CALL = Pattern.compile("star\\.(\\w+)\\((.*)\\);\\s*// (throws \\w+|-?\\d+):.*");
    private static final Check CHECK = new Check();

    public static void main(String[] args) throws IOException {
        String readme = Files.readString(Path.of("README.md"), StandardCharsets.UTF_8);
        CHECK.promise("README.md");
        answersAsTheExampleSays(readme);
        namesEachCall(readme);
        CHECK.end();
    }

    private static void answersAsTheExampleSays(String readme) {
        SmudgedStar star = new SmudgedStar();
        int calls = 0;
        for (String line : readme.split("\n")) {
            if (line.startsWith("star.")) {
                Matcher call = CALL.matcher(line);
                CHECK.same("the form of " + line, call.matches(), true);
                CHECK.same(line, call.matches() ? answer(star, call.group(1), call.group(2)) : null,
                        call.matches() ? call.group(3) : "");
                calls++;
            }
        }
        CHECK.same("the example has calls", calls > 0, true);
    }

    private static String answer(SmudgedStar star, String name, String told) {
        String[] words = told.isEmpty() ? new String[0] : told.split(", ");
        Object[] values = new Object[words.length];
        for (int i = 0; i < words.length; i++) {
            values[i] = words[i].matches("true|false") ? (Object) Boolean.valueOf(words[i]) : Integer.valueOf(words[i]);
        }
        try {
            return String.valueOf(methodOf(name).invoke(star, values));
        } catch (InvocationTargetException e) {
            return "throws " + e.getCause().getClass().getSimpleName();
        } catch (IllegalAccessException e) {
            return "cannot be called";
        }
    }

    private static Method methodOf(String name) {
        for (Method method : SmudgedStar.class.getDeclaredMethods()) {
            if (method.getName().equals(name)) {
                return method;
            }
        }
        throw new IllegalArgumentException("README.md calls " + name + ", which there is not");
    }

    private static void namesEachCall(String readme) {
        for (Method method : SmudgedStar.class.getDeclaredMethods()) {
            if (Modifier.isPublic(method.getModifiers())) {
                CHECK.same("the list names " + method.getName(), readme.contains("`" + method.getName() + "`"), true);
            }
        }
    }
}
