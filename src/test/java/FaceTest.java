import java.lang.reflect.Constructor;
import java.lang.reflect.Field;
import java.lang.reflect.Method;
import java.lang.reflect.Modifier;
import java.util.Arrays;
import java.util.HashSet;
import java.util.Set;
import java.util.TreeSet;

/** The public face, as the document writes it, and the rule of LANGUAGE.md on it. */
public final class FaceTest {
    private static final String INDEX = "IndexOutOfBoundsException";
    private static final String ARGUMENT = "IllegalArgumentException";
    private static final String STATE = "IllegalStateException";

    private static final String[] METHODS = {
        "int sound(int,int) " + INDEX + " " + ARGUMENT,
        "int sweep(int,int,int) " + INDEX + " " + ARGUMENT,
        "int shapes()",
        "int shapeOf(int) " + INDEX,
        "int size(int) " + INDEX,
        "int top(int) " + INDEX,
        "int nameOf(int) " + INDEX,
        "int titleAt(int,int) " + INDEX,
        "int name(int,int,int,int) " + INDEX + " " + ARGUMENT + " " + STATE,
        "int raise(int,int,int,int) " + INDEX + " " + ARGUMENT + " " + STATE,
        "int fill(int) " + INDEX + " " + STATE,
        "int air(int) " + INDEX,
        "int rest(int) " + INDEX,
        "int longest(int,int) " + INDEX,
        "int claim(int,int) " + INDEX + " " + STATE,
        "int renew(int) " + INDEX + " " + STATE,
        "int advance(int) " + ARGUMENT + " " + STATE,
        "int minute()",
        "int finder(int) " + INDEX,
        "int finderBySoundings(int) " + INDEX,
        "int claims()",
        "boolean runs(int) " + INDEX,
        "boolean holds(int) " + INDEX,
        "int things()",
        "int shapeOfThing(int) " + INDEX,
        "int finderOfThing(int) " + INDEX,
        "int reward(int) " + INDEX,
        "int kept()",
    };

    private static final String[] CONSTANTS = {"NONE", "NO_NAME", "ROCK", "WRECK", "THING"};

    public static void main(String[] args) {
        constants();
        constructor();
        methods();
        fields();
        insideClasses();
        Check.end("FaceTest");
    }

    private static void constants() {
        Check.due("NONE", EchoRegistry.NONE, -1);
        Check.due("NO_NAME", EchoRegistry.NO_NAME, 0);
        Check.due("ROCK", EchoRegistry.ROCK, 1);
        Check.due("WRECK", EchoRegistry.WRECK, 2);
        Check.due("THING", EchoRegistry.THING, 3);
    }

    private static void constructor() {
        Constructor<?>[] all = EchoRegistry.class.getDeclaredConstructors();
        Check.due("constructors", all.length, 1);
        Check.due("parameters of the constructor", all[0].getParameterCount(), 0);
        Check.due("a public constructor", Modifier.isPublic(all[0].getModifiers()), true);
        Check.due("a final class", Modifier.isFinal(EchoRegistry.class.getModifiers()), true);
        Check.due("a public class", Modifier.isPublic(EchoRegistry.class.getModifiers()), true);
    }

    private static void methods() {
        Set<String> seen = new TreeSet<>();
        Set<String> publicNames = new HashSet<>();
        for (Method method : EchoRegistry.class.getDeclaredMethods()) {
            if (Modifier.isPublic(method.getModifiers())) {
                seen.add(told(method));
                publicNames.add(method.getName());
            }
        }
        Check.same("the public methods", seen.toString(), new TreeSet<>(Arrays.asList(METHODS)).toString());
        for (Method method : EchoRegistry.class.getDeclaredMethods()) {
            if (!Modifier.isPublic(method.getModifiers()) && !method.isSynthetic()) {
                Check.due(method + " is private", Modifier.isPrivate(method.getModifiers()), true);
                Check.due(method + " bears a public name", publicNames.contains(method.getName()), false);
            }
        }
    }

    private static String told(Method method) {
        StringBuilder text = new StringBuilder();
        text.append(method.getReturnType().getName()).append(' ').append(method.getName()).append('(');
        for (int i = 0; i < method.getParameterCount(); i++) {
            text.append(i == 0 ? "" : ",").append(method.getParameterTypes()[i].getName());
        }
        text.append(')');
        for (Class<?> exception : method.getExceptionTypes()) {
            text.append(' ').append(exception.getSimpleName());
        }
        return text.toString();
    }

    private static void fields() {
        Set<String> constants = new TreeSet<>();
        for (Field field : EchoRegistry.class.getDeclaredFields()) {
            int modifiers = field.getModifiers();
            if (Modifier.isPublic(modifiers)) {
                constants.add(field.getName());
            } else {
                Check.due(field + " is private", Modifier.isPrivate(modifiers), true);
            }
            if (Modifier.isStatic(modifiers)) {
                Check.due(field + " is final", Modifier.isFinal(modifiers), true);
            }
        }
        Check.same("the public fields", constants.toString(), new TreeSet<>(Arrays.asList(CONSTANTS)).toString());
    }

    private static void insideClasses() {
        Class<?>[] inside = EchoRegistry.class.getDeclaredClasses();
        Check.due("at most twelve classes", inside.length < 12, true);
        for (Class<?> one : inside) {
            int modifiers = one.getModifiers();
            Check.due(one + " is static", Modifier.isStatic(modifiers), true);
            Check.due(one + " is hidden", Modifier.isPublic(modifiers) || Modifier.isProtected(modifiers), false);
            Check.due(one + " has few fields", one.getDeclaredFields().length <= 20, true);
        }
    }
}
