import java.lang.reflect.InvocationTargetException;
import java.lang.reflect.Method;
import java.nio.file.Files;
import java.nio.file.Path;
import java.util.regex.Matcher;
import java.util.regex.Pattern;

/** The examples of README.md: each call answers what stands behind it. */
final class ReadmeTest {
    private static final Due DUE = new Due();
    private static final Pattern CALL = Pattern.compile("house\\.(\\w+)\\((.*)\\); +// ([-\\w]+): .*");

    public static void main(String[] args) throws Exception {
        BundleHouse house = null;
        boolean inside = false;
        int examples = 0;
        for (String line : Files.readAllLines(Path.of("README.md"))) {
            if (line.startsWith("```")) {
                inside = line.equals("```java");
                examples += inside ? 1 : 0;
            } else if (inside && line.equals("BundleHouse house = new BundleHouse();")) {
                house = new BundleHouse();
            } else if (inside) {
                example(house, line);
            }
        }
        DUE.is("examples in README.md", examples, 2);
        DUE.end();
    }

    private static void example(BundleHouse house, String line) throws Exception {
        Matcher parts = CALL.matcher(line);
        DUE.sentence("README.md", line);
        DUE.is("it is a call with its answer", parts.matches(), true);
        if (parts.matches()) {
            String got = answer(house, parts.group(1), parts.group(2));
            DUE.is("what stands there is its answer, " + got, got.equals(parts.group(3)), true);
        }
    }

    private static String answer(BundleHouse house, String name, String told) throws Exception {
        Method method = methodOf(name);
        String[] words = told.isEmpty() ? new String[0] : told.split(", ");
        Object[] arguments = new Object[words.length];
        for (int k = 0; k < words.length; k++) {
            boolean truth = method.getParameterTypes()[k] == boolean.class;
            arguments[k] = truth ? (Object) Boolean.valueOf(words[k]) : (Object) Long.decode(words[k]).intValue();
        }
        try {
            return String.valueOf(method.invoke(house, arguments));
        } catch (InvocationTargetException e) {
            return e.getCause().getClass().getSimpleName();
        }
    }

    private static Method methodOf(String name) {
        for (Method one : BundleHouse.class.getMethods()) {
            if (one.getName().equals(name)) {
                return one;
            }
        }
        throw new AssertionError("no call of the face: " + name);
    }
}
