import java.lang.reflect.Constructor;
import java.lang.reflect.Field;
import java.lang.reflect.Method;
import java.lang.reflect.Modifier;
import java.util.Arrays;
import java.util.HashSet;
import java.util.Set;
import java.util.TreeSet;

/** The class has the document's constants, constructor and methods, and no other open member. */
public final class FaceTest {
    private static final String[] CONSTANTS = {"UNKNOWN", "BAD_VALUE", "FULL", "NOT_POSSIBLE", "NONE"};
    private static final int[] NUMBERS = {-1, -2, -3, -4, -5};
    private static final String[] METHODS = {"push int int", "set int int int", "pop int",
        "window int int int", "drop int", "begin int", "editPush int", "editSet int int", "editPop",
        "editRead", "finish", "abandon", "type char", "clearText", "undo", "keep", "restore",
        "get int int", "vector int int", "block int int int", "shared int int", "differ int int",
        "find int int int", "wouldMake int int", "edit int", "count int"};

    private final Check check = new Check();

    public static void main(String[] args) throws IllegalAccessException {
        FaceTest test = new FaceTest();
        test.check.topic("face");
        test.constants();
        test.methods();
        test.insides();
        test.check.end();
    }

    private void constants() throws IllegalAccessException {
        Set<String> open = new TreeSet<>();
        for (Field field : TailVectors.class.getDeclaredFields()) {
            int modifiers = field.getModifiers();
            if (!Modifier.isPrivate(modifiers)) {
                open.add(field.getName());
                check.that(field.getName() + " is no constant", Modifier.isPublic(modifiers)
                    && Modifier.isStatic(modifiers) && Modifier.isFinal(modifiers));
                check.due(field.getName(), field.getInt(null),
                    NUMBERS[Arrays.asList(CONSTANTS).indexOf(field.getName())]);
            }
        }
        check.that("constants: " + open, open.equals(new TreeSet<>(Arrays.asList(CONSTANTS))));
    }

    private void methods() {
        Set<String> open = new TreeSet<>();
        for (Method method : TailVectors.class.getDeclaredMethods()) {
            if (!Modifier.isPrivate(method.getModifiers()) && !method.isSynthetic()) {
                open.add(signature(method));
                check.that(method + " answers no int", method.getReturnType() == int.class);
                check.that(method + " is not public", Modifier.isPublic(method.getModifiers()));
            }
        }
        check.that("methods: " + open, open.equals(new TreeSet<>(Arrays.asList(METHODS))));
        Constructor<?>[] constructors = TailVectors.class.getDeclaredConstructors();
        check.due("constructors", constructors.length, 1);
        check.due("its parameters", constructors[0].getParameterCount(), 0);
        check.that("the class is not public and final",
            (TailVectors.class.getModifiers() & (Modifier.PUBLIC | Modifier.FINAL))
                == (Modifier.PUBLIC | Modifier.FINAL));
    }

    private static String signature(Method method) {
        StringBuilder result = new StringBuilder(method.getName());
        for (Class<?> parameter : method.getParameterTypes()) {
            result.append(' ').append(parameter.getName());
        }
        return result.toString();
    }

    /** LANGUAGE.md, rules 1, 2, 5 and 11, as far as the compiled classes show them. */
    private void insides() {
        Set<String> names = new HashSet<>();
        for (String method : METHODS) {
            names.add(method.split(" ")[0]);
        }
        Class<?>[] inside = TailVectors.class.getDeclaredClasses();
        check.that("too many classes", inside.length < 12);
        checkFields(TailVectors.class);
        checkPrivateNames(TailVectors.class, names);
        for (Class<?> one : inside) {
            check.that(one + " is public or not static", Modifier.isStatic(one.getModifiers())
                && !Modifier.isPublic(one.getModifiers()) && !Modifier.isProtected(one.getModifiers()));
            checkFields(one);
            checkPrivateNames(one, names);
        }
    }

    private void checkFields(Class<?> one) {
        int fields = 0;
        for (Field field : one.getDeclaredFields()) {
            if (Modifier.isStatic(field.getModifiers())) {
                check.that(field + " is static, but not final", Modifier.isFinal(field.getModifiers()));
            } else {
                fields++;
            }
        }
        check.that(one + " has too many fields", fields <= 20);
    }

    private void checkPrivateNames(Class<?> one, Set<String> names) {
        for (Method method : one.getDeclaredMethods()) {
            check.that(method + " has too many parameters", method.getParameterCount() <= 7);
            if (one != TailVectors.class || Modifier.isPrivate(method.getModifiers())) {
                check.that(method + " bears the name of a public one", !names.contains(method.getName()));
            }
        }
    }
}
