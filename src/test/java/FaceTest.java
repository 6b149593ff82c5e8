import java.lang.reflect.Constructor;
import java.lang.reflect.Field;
import java.lang.reflect.Method;
import java.lang.reflect.Modifier;
import java.util.ArrayList;
import java.util.Collections;
import java.util.List;

/** The public face: its members and the exceptions they declare, and nothing beside them. */
public final class FaceTest {
    private static final String INDEX = " IndexOutOfBoundsException";
    private static final String ARGUMENT = " IllegalArgumentException";
    private static final String STATE = " IllegalStateException";
    private static final String[] FACE = {
        "int addThing()" + STATE,
        "int addAstronomer(int)" + ARGUMENT + STATE,
        "int blame(int,int)" + INDEX + ARGUMENT,
        "int writeDown(int,boolean)" + ARGUMENT + STATE,
        "int strike(int)" + INDEX,
        "int things()",
        "int nightsWith(int)" + INDEX,
        "int smudgesWith(int)" + INDEX,
        "boolean isCleared(int)" + INDEX,
        "boolean isProved(int)" + INDEX,
        "int setsWith(int)" + INDEX,
        "int nights()",
        "int smudges()",
        "int usedIn(int)" + INDEX,
        "boolean isSmudged(int)" + INDEX,
        "boolean agree()",
        "int astronomers()",
        "int blamedBy(int)" + INDEX,
        "int stubbornnessOf(int)" + INDEX,
        "int unexplainedBy(int)" + INDEX,
        "int votesFor(int)" + INDEX,
        "int vote()",
        "int changesOfMind()",
        "boolean explainsAll(int)" + ARGUMENT,
        "int explanations()",
        "int simplest()",
        "int surelyToBlame()",
        "int nightsToDoubt()",
        "int leftIfSmudged(int)" + ARGUMENT,
        "int bestNight()",
        "int wouldChange(int,boolean)" + ARGUMENT + STATE,
        "double meanBlame()",
        "long digest()",
    };

    public static void main(String[] args) {
        Check check = new Check();
        check.promise("the face");
        Class<?> face = SmudgedStar.class;
        check.same("modifiers", face.getModifiers(), Modifier.PUBLIC | Modifier.FINAL);
        check.same("constructors", face.getDeclaredConstructors().length, 1);
        Constructor<?> constructor = face.getDeclaredConstructors()[0];
        check.same("the constructor's modifiers", constructor.getModifiers(), Modifier.PUBLIC);
        check.same("the constructor's parameters", constructor.getParameterCount(), 0);
        for (Field field : face.getDeclaredFields()) {
            check.same(field.getName() + " is private", Modifier.isPrivate(field.getModifiers()), true);
        }
        List<String> due = new ArrayList<>(List.of(FACE));
        Collections.sort(due);
        check.same("methods that are not private", String.join("\n", methodsOf(face)), String.join("\n", due));
        check.end();
    }

    private static List<String> methodsOf(Class<?> face) {
        List<String> lines = new ArrayList<>();
        for (Method method : face.getDeclaredMethods()) {
            if (!Modifier.isPrivate(method.getModifiers())) {
                lines.add(lineOf(method));
            }
        }
        Collections.sort(lines);
        return lines;
    }

    private static String lineOf(Method method) {
        StringBuilder line = new StringBuilder();
        line.append(method.getReturnType().getSimpleName()).append(' ').append(method.getName()).append('(');
        for (int i = 0; i < method.getParameterCount(); i++) {
            line.append(i == 0 ? "" : ",").append(method.getParameterTypes()[i].getSimpleName());
        }
        line.append(')');
        for (Class<?> exception : method.getExceptionTypes()) {
            line.append(' ').append(exception.getSimpleName());
        }
        return line.toString();
    }
}
