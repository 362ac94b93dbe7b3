import java.lang.reflect.Constructor;
import java.lang.reflect.Field;
import java.lang.reflect.Method;
import java.lang.reflect.Modifier;
import java.util.Arrays;
import java.util.Set;
import java.util.TreeSet;

/** The public face: the members of the document, and no other one that can be seen from outside. */
final class FaceTest {
    private static final Due DUE = new Due();
    private static final String[] FACE = {
        "boolean feed(int, int, int, int, int)", "boolean end(int)", "int check()", "int fault(int)",
        "int plain(int, int, int, int, int, int)", "int flow(int, int, int)", "int clear()", "int build()", "int size()",
        "int code(int)", "int decoded(int, int) NoSuchElementException", "int place(int, int)", "boolean set(int, int, int)",
        "int run(int) IllegalArgumentException IllegalStateException", "int walk(int) IllegalArgumentException IllegalStateException",
        "int state(boolean, int) NoSuchElementException", "int data(boolean, int)", "int output(boolean, int) NoSuchElementException"
    };

    public static void main(String[] args) {
        DUE.sentence("The public face", "public final class BundleHouse");
        int modifiers = BundleHouse.class.getModifiers();
        DUE.is("public and final", Modifier.isPublic(modifiers) && Modifier.isFinal(modifiers), true);
        DUE.sentence("The public face", "public static final int NONE = -1");
        DUE.is("NONE", BundleHouse.NONE, -1);
        constructors();
        methods();
        fields();
        DUE.end();
    }

    private static void constructors() {
        DUE.sentence("The public face", "public BundleHouse()");
        Constructor<?>[] all = BundleHouse.class.getDeclaredConstructors();
        DUE.is("how many", all.length, 1);
        DUE.is("public", Modifier.isPublic(all[0].getModifiers()), true);
        DUE.is("its parameters", all[0].getParameterCount(), 0);
    }

    private static String told(Method m) {
        StringBuilder text = new StringBuilder(m.getReturnType() + " " + m.getName() + "(");
        for (int k = 0; k < m.getParameterCount(); k++) {
            text.append(k == 0 ? "" : ", ").append(m.getParameterTypes()[k]);
        }
        text.append(")");
        Set<String> thrown = new TreeSet<>();
        for (Class<?> one : m.getExceptionTypes()) {
            thrown.add(one.getSimpleName());
        }
        for (String one : thrown) {
            text.append(" ").append(one);
        }
        return text.toString();
    }

    private static void methods() {
        Set<String> want = new TreeSet<>(Arrays.asList(FACE));
        for (Method m : BundleHouse.class.getDeclaredMethods()) {
            if (m.isSynthetic() || Modifier.isPrivate(m.getModifiers())) {
                continue;
            }
            DUE.sentence("The public face", told(m));
            DUE.is("it is the document's", want.remove(told(m)), true);
            DUE.is("it is public", Modifier.isPublic(m.getModifiers()), true);
            DUE.is("it is of an object", Modifier.isStatic(m.getModifiers()), false);
        }
        for (String one : want) {
            DUE.sentence("The public face", one);
            DUE.is("it is there", false, true);
        }
    }

    private static void fields() {
        for (Field f : BundleHouse.class.getDeclaredFields()) {
            boolean hidden = f.isSynthetic() || Modifier.isPrivate(f.getModifiers());
            DUE.sentence("The public face", f.getName());
            DUE.is("it is NONE or private", hidden || f.getName().equals("NONE"), true);
        }
    }
}
