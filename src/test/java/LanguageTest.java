import java.lang.reflect.Constructor;
import java.lang.reflect.Field;
import java.lang.reflect.Method;
import java.lang.reflect.Modifier;
import java.nio.file.Files;
import java.nio.file.Path;
import java.util.ArrayList;
import java.util.List;
import java.util.Set;
import java.util.TreeSet;
import java.util.regex.Matcher;
import java.util.regex.Pattern;

/** Rules of ../shared/LANGUAGE.md that can be read off the file, without what is said or quoted in it, or off the class. */
final class LanguageTest {
    private static final Due DUE = new Due();
    private static final Path FILE = Path.of("src/main/java/BundleHouse.java");
    private static final int LINES_MOST = 60;

    public static void main(String[] args) throws Exception {
        String code = withoutWords(Files.readString(FILE));
        oneFile(code);
        rulesOfTheText(code);
        thrown(code);
        library(code);
        shortMethods(code);
        List<Class<?>> all = new ArrayList<>(List.of(BundleHouse.class.getDeclaredClasses()));
        DUE.sentence("rule 11", "the file has at most some twelve classes");
        DUE.is("at most 12", all.size() + 1 <= 12, true);
        classesInside(all);
        all.add(BundleHouse.class);
        for (Class<?> one : all) {
            members(one);
        }
        DUE.end();
    }

    private static String withoutWords(String text) {
        return text.replaceAll("(?s)/\\*.*?\\*/", "").replaceAll("//[^\n]*", "").replaceAll("\"[^\"\n]*\"", "\"\"");
    }

    private static void oneFile(String code) {
        DUE.sentence("rules 1 and 4", "without a package line; the library: only what stands here");
        Matcher lines = Pattern.compile("(?m)^(package|import) .*$").matcher(code);
        List<String> found = new ArrayList<>();
        while (lines.find()) {
            found.add(lines.group());
        }
        DUE.is("one import, and no package", found.equals(List.of("import java.util.NoSuchElementException;")), true);
    }

    private static void none(String code, String rule, String words, String pattern) {
        DUE.sentence(rule, words);
        Matcher found = Pattern.compile(pattern).matcher(code);
        DUE.is(found.find() ? "found: " + found.group() : "none", found.reset().find(), false);
    }

    private static void rulesOfTheText(String code) {
        none(code, "rule 2", "no lambda, no method reference", "->|::");
        none(code, "rule 4", "none of those whose name ends in Exact", "\\w+Exact\\b");
        none(code, "rule 5", "no static initialiser block", "\\bstatic\\s*\\{");
        none(code, "rule 6", "no finally, synchronized, assert; nothing here needs a try", "\\b(try|catch|finally|synchronized|assert)\\b");
        none(code, "rule 6", "no equals, hashCode, toString of your own objects", "\\b(equals|hashCode|toString)\\b");
        none(code, "rule 7", "a reference against null before it is used; here is none", "\\bnull\\b");
        none(code, "rule 10", "joining texts not by +", "\"\\s*\\+|\\+\\s*\"");
        none(code, "rule 13", "no clock, no randomness, no file, network, thread", "\\b(Random|Thread|File|Clock|random|nanoTime|currentTimeMillis)\\b");
    }

    private static void thrown(String code) {
        DUE.sentence("rule 6", "throw new E(a written text)");
        Matcher all = Pattern.compile("\\bthrow\\b[^;]*;").matcher(code);
        int count = 0;
        while (all.find()) {
            count++;
            boolean good = all.group().matches("throw new (IllegalState|IllegalArgument|NoSuchElement)Exception\\(\"\"\\);");
            DUE.is(all.group(), good, true);
        }
        DUE.is("there are some", count > 0, true);
    }

    /** Rule 4 leaves more; what the class comes to use of it is to be looked up there first, and told here. */
    private static void library(String code) {
        Set<String> mayBe = Set.of("Math.max", "Math.min", "System.arraycopy");
        DUE.sentence("rule 4", "the library: only what stands here");
        Matcher all = Pattern.compile("\\b(Math|System|Arrays|Integer|Long|String|StringBuilder)\\b(\\.\\w+)?").matcher(code);
        while (all.find()) {
            DUE.is(all.group(), mayBe.contains(all.group()), true);
        }
    }

    /** By how lines are set in: a method begins with a line that ends in {, and ends with the next } as deep. */
    private static void shortMethods(String code) {
        DUE.sentence("rule 11", "methods stay short (some sixty lines)");
        Matcher all = Pattern.compile("(?m)^( {4}| {8})[\\w<].*\\) ?(throws [\\w, ]+)?\\{\\n((?s:.*?))^\\1\\}").matcher(code);
        int count = 0;
        while (all.find()) {
            count++;
            DUE.is(all.group().split("\n")[0].trim(), all.group(3).split("\n").length <= LINES_MOST, true);
        }
        DUE.is("there are many", count > 100, true);
    }

    private static void classesInside(List<Class<?>> inside) {
        DUE.sentence("rule 1", "the classes inside it, which are private or package-visible and static");
        for (Class<?> one : inside) {
            int m = one.getModifiers();
            DUE.is(one.getSimpleName(), Modifier.isStatic(m) && !Modifier.isPublic(m) && !Modifier.isProtected(m), true);
        }
    }

    private static void members(Class<?> one) {
        Set<String> face = new TreeSet<>();
        for (Method m : BundleHouse.class.getDeclaredMethods()) {
            if (Modifier.isPublic(m.getModifiers())) {
                face.add(m.getName());
            }
        }
        for (Method m : one.getDeclaredMethods()) {
            DUE.sentence("rule 1", "no private method bears the name of a public one");
            DUE.is(m.toString(), face.contains(m.getName()) && !Modifier.isPublic(m.getModifiers()), false);
            DUE.sentence("rule 11", "a method takes at most seven parameters");
            DUE.is(m.toString(), m.getParameterCount() <= 7, true);
        }
        for (Constructor<?> c : one.getDeclaredConstructors()) {
            DUE.is(c.toString(), c.getParameterCount() <= 7, true);
        }
        fields(one);
    }

    private static void fields(Class<?> one) {
        int own = 0;
        for (Field f : one.getDeclaredFields()) {
            boolean isStatic = Modifier.isStatic(f.getModifiers());
            own += isStatic ? 0 : 1;
            DUE.sentence("rule 5", "static fields are final");
            DUE.is(f.toString(), !isStatic || Modifier.isFinal(f.getModifiers()), true);
            DUE.sentence("rule 3", "no doubles here; arrays of one dimension");
            Class<?> sort = f.getType();
            boolean plain = sort == int.class || sort == long.class || sort == boolean.class || sort == int[].class;
            DUE.is(f.toString(), plain || sort.getEnclosingClass() == BundleHouse.class, true);
        }
        DUE.sentence("rule 11", "a class some twenty fields beside its constants");
        DUE.is(one.getSimpleName(), own <= 20, true);
    }
}
