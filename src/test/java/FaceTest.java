import java.lang.reflect.Constructor;
import java.lang.reflect.Field;
import java.lang.reflect.Method;
import java.lang.reflect.Modifier;
import java.util.Set;
import java.util.TreeSet;

/** The public face, and the rules of LANGUAGE.md that can be seen in the compiled classes. */
public final class FaceTest {
    private static final String[] METHODS = {
        "boolean code(int, int, int)",
        "int deposit(int, int) IndexOutOfBounds IllegalArgument UnsupportedOperation",
        "int send(int) UnsupportedOperation",
        "long claim(int, int, long) IndexOutOfBounds IllegalState IllegalArgument UnsupportedOperation",
        "int challenge(int) IndexOutOfBounds IllegalState UnsupportedOperation",
        "long post(int, long) IndexOutOfBounds IllegalState",
        "int pick(int, boolean) IndexOutOfBounds IllegalState",
        "boolean prove(int, int, int) IndexOutOfBounds IllegalState IllegalArgument",
        "int block()",
        "int draw(int) IndexOutOfBounds IllegalState IllegalArgument UnsupportedOperation",
        "int balance(int)",
        "int pot()",
        "int word(int)",
        "long truth(int)",
        "long base()",
        "long state(int)",
        "long assertion(int)",
        "long game(int, int)",
    };

    public static void main(String[] args) {
        Class<?> face = StepCourt.class;
        Check.same("public and final", face.getModifiers(), Modifier.PUBLIC | Modifier.FINAL);
        Set<String> names = faceMethods(face);
        Check.same("constructors", face.getDeclaredConstructors().length, 1);
        for (Constructor<?> constructor : face.getDeclaredConstructors()) {
            Check.same("constructor is public", constructor.getModifiers(), Modifier.PUBLIC);
            Check.same("constructor takes nothing", constructor.getParameterCount(), 0);
        }
        for (Field field : face.getDeclaredFields()) {
            Check.yes(field + " is private", Modifier.isPrivate(field.getModifiers()));
        }
        innerRules(face, names);
        Check.yes("at most twelve classes", face.getDeclaredClasses().length < 12);
        for (Class<?> inside : face.getDeclaredClasses()) {
            Check.yes(inside + " is static", Modifier.isStatic(inside.getModifiers()));
            innerRules(inside, names);
        }
        Check.finish();
    }

    private static Set<String> faceMethods(Class<?> face) {
        Set<String> due = new TreeSet<>(Set.of(METHODS));
        Set<String> names = new TreeSet<>();
        for (Method method : face.getDeclaredMethods()) {
            if (Modifier.isPrivate(method.getModifiers())) {
                continue;
            }
            names.add(method.getName());
            Check.same(method + " is public", method.getModifiers(), Modifier.PUBLIC);
            Check.yes(written(method) + " is of the face", due.remove(written(method)));
        }
        Check.yes("missing: " + due, due.isEmpty());
        return names;
    }

    private static String written(Method method) {
        StringBuilder text = new StringBuilder();
        text.append(method.getReturnType()).append(' ').append(method.getName()).append('(');
        for (int i = 0; i < method.getParameterCount(); i++) {
            text.append(i == 0 ? "" : ", ").append(method.getParameterTypes()[i]);
        }
        text.append(')');
        for (Class<?> thrown : method.getExceptionTypes()) {
            text.append(' ').append(thrown.getSimpleName().replace("Exception", ""));
        }
        return text.toString();
    }

    private static void innerRules(Class<?> type, Set<String> faceNames) {
        int fields = 0;
        for (Field field : type.getDeclaredFields()) {
            boolean isStatic = Modifier.isStatic(field.getModifiers());
            fields += isStatic ? 0 : 1;
            Check.yes(field + " is final if static", !isStatic || Modifier.isFinal(field.getModifiers()));
        }
        Check.yes(type + " has few fields", fields <= 20);
        for (Method method : type.getDeclaredMethods()) {
            Check.yes(method + " has few parameters", method.getParameterCount() <= 7);
            boolean ofFace = type == StepCourt.class && Modifier.isPublic(method.getModifiers());
            Check.yes(method + " has a name of its own", ofFace || !faceNames.contains(method.getName()));
        }
    }
}
