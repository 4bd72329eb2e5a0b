import java.lang.reflect.Constructor;
import java.lang.reflect.Field;
import java.lang.reflect.Method;
import java.lang.reflect.Modifier;
import java.util.Arrays;
import java.util.TreeSet;

/** The class has the document's face, and nothing else that another class could reach. */
public final class FaceTest {
    private static final String[] METHODS = {
        "int type(int) IllegalArgumentException, IllegalStateException",
        "int clear()",
        "int fault()",
        "int post() IllegalStateException",
        "boolean write(int) IndexOutOfBoundsException, IllegalStateException",
        "int strike(int) IndexOutOfBoundsException, IllegalStateException",
        "int rule(int, int, int, int) IllegalArgumentException, IllegalStateException",
        "int takeBack(int) IndexOutOfBoundsException, IllegalStateException",
        "int audit(int, int) IndexOutOfBoundsException, IllegalArgumentException, IllegalStateException",
        "boolean end(int) IndexOutOfBoundsException, IllegalStateException",
        "int entries()",
        "int signAt(int, int, int) IndexOutOfBoundsException, IllegalArgumentException",
        "int length(int, int) IndexOutOfBoundsException, IllegalArgumentException",
        "int proof(int) IndexOutOfBoundsException",
        "int proofAnew(int) IndexOutOfBoundsException",
        "int gets(int, int) IndexOutOfBoundsException, IllegalArgumentException",
        "int sum(int, int) IndexOutOfBoundsException, IllegalArgumentException",
        "int doubts(int) IndexOutOfBoundsException",
        "int doubted(int) IndexOutOfBoundsException",
        "boolean isFrozen(int) IndexOutOfBoundsException",
        "boolean holds(int) IndexOutOfBoundsException",
    };
    private static final String[] CONSTANTS = {"NONE=-1", "BALANCED=0", "AT_MOST=1", "WITH=2", "STAYS=3", "AS_TYPED=0",
        "WRITTEN=1", "SPREAD=2"};

    public static void main(String[] args) throws IllegalAccessException {
        Check.equal("the class", Modifier.toString(Postlint.class.getModifiers()), "public final");
        methods();
        constants();
        Constructor<?>[] made = Postlint.class.getDeclaredConstructors();
        Check.equal("constructors", made.length, 1);
        Check.equal("the constructor", made[0].toString(), "public Postlint()");
        innerClasses();
        Check.close("FaceTest");
    }

    private static void methods() {
        TreeSet<String> got = new TreeSet<>();
        TreeSet<String> names = new TreeSet<>();
        for (Method method : Postlint.class.getDeclaredMethods()) {
            if (!Modifier.isPrivate(method.getModifiers())) {
                got.add(Modifier.toString(method.getModifiers()) + " " + told(method));
                names.add(method.getName());
            }
        }
        TreeSet<String> due = new TreeSet<>();
        for (String method : METHODS) {
            due.add("public " + method);
        }
        Check.equal("the methods", got.toString(), due.toString());
        for (Method method : Postlint.class.getDeclaredMethods()) {
            boolean twice = Modifier.isPrivate(method.getModifiers()) && names.contains(method.getName());
            Check.no("private method " + method.getName() + " bears a public name", twice);
        }
    }

    private static String told(Method method) {
        String thrown = names(method.getExceptionTypes());
        return method.getReturnType() + " " + method.getName() + "(" + names(method.getParameterTypes()) + ")"
            + (thrown.isEmpty() ? "" : " " + thrown);
    }

    private static String names(Class<?>[] types) {
        return String.join(", ", Arrays.stream(types).map(Class::getSimpleName).toList());
    }

    private static void constants() throws IllegalAccessException {
        TreeSet<String> got = new TreeSet<>();
        for (Field field : Postlint.class.getDeclaredFields()) {
            int modifiers = field.getModifiers();
            if (!Modifier.isPrivate(modifiers)) {
                Check.equal(field.getName(), Modifier.toString(modifiers), "public static final");
                got.add(field.getName() + "=" + field.getInt(null));
            } else if (Modifier.isStatic(modifiers)) {
                Check.yes(field.getName() + " is final", Modifier.isFinal(modifiers));
            }
        }
        Check.equal("the constants", got.toString(), new TreeSet<>(Arrays.asList(CONSTANTS)).toString());
    }

    private static void innerClasses() {
        for (Class<?> inner : Postlint.class.getDeclaredClasses()) {
            int modifiers = inner.getModifiers();
            boolean hidden = !Modifier.isPublic(modifiers) && !Modifier.isProtected(modifiers);
            Check.yes(inner.getName() + " is hidden and static", hidden && Modifier.isStatic(modifiers));
        }
    }
}
