import java.lang.reflect.Constructor;
import java.lang.reflect.Field;
import java.lang.reflect.Method;
import java.lang.reflect.Modifier;
import java.util.Arrays;
import java.util.Set;
import java.util.TreeSet;

/** The public face: what the document lists, and nothing else that is not private. */
public final class FaceTest {
    private static final Set<String> DUE = new TreeSet<>(Arrays.asList(
            "void payload(long, int) IllegalArgumentException, IllegalStateException",
            "int update(int, int, int) IllegalArgumentException, IllegalStateException",
            "void power(int) IllegalArgumentException",
            "int boot() IllegalStateException",
            "void confirm() IllegalStateException, UnsupportedOperationException",
            "int runs(int) IllegalArgumentException",
            "void spoil(int, int, int) IllegalArgumentException",
            "int flash(int, int) IllegalArgumentException",
            "int state() ",
            "int counter(int) IllegalArgumentException",
            "int register(int, int) IllegalArgumentException",
            "int quote(int, int) IllegalArgumentException, IllegalStateException",
            "int hash(int, int, int) IllegalArgumentException"));

    public static void main(String[] args) {
        int modifiers = BootChain.class.getModifiers();
        Check.holds("public", Modifier.isPublic(modifiers));
        Check.holds("final", Modifier.isFinal(modifiers));
        methods();
        for (Field field : BootChain.class.getDeclaredFields()) {
            Check.holds("private: " + field, Modifier.isPrivate(field.getModifiers()));
        }
        Constructor<?>[] constructors = BootChain.class.getDeclaredConstructors();
        Check.equal("constructors", constructors.length, 1);
        Check.holds("public constructor", Modifier.isPublic(constructors[0].getModifiers()));
        Check.equal("its parameters", constructors[0].getParameterCount(), 0);
        for (Class<?> inside : BootChain.class.getDeclaredClasses()) {
            Check.holds("static: " + inside, Modifier.isStatic(inside.getModifiers()));
        }
        Check.end();
    }

    private static void methods() {
        Set<String> got = new TreeSet<>();
        Set<String> names = new TreeSet<>();
        for (Method method : BootChain.class.getDeclaredMethods()) {
            if (Modifier.isPrivate(method.getModifiers())) {
                names.add(method.getName());
            } else {
                Check.holds("public: " + method, Modifier.isPublic(method.getModifiers()));
                got.add(method.getReturnType() + " " + method.getName()
                        + "(" + simpleNames(method.getParameterTypes()) + ") "
                        + simpleNames(method.getExceptionTypes()));
            }
        }
        Check.holds("the methods " + got, got.equals(DUE));
        for (String line : DUE) {
            String name = line.substring(line.indexOf(' ') + 1, line.indexOf('('));
            Check.holds("no private " + name, !names.contains(name));
        }
    }

    private static String simpleNames(Class<?>[] types) {
        StringBuilder text = new StringBuilder();
        for (Class<?> type : types) {
            text.append(text.length() == 0 ? "" : ", ").append(type.getSimpleName());
        }
        return text.toString();
    }
}
