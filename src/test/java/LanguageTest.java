import java.lang.reflect.Array;
import java.lang.reflect.Constructor;
import java.lang.reflect.Field;
import java.lang.reflect.Method;
import java.lang.reflect.Modifier;
import java.nio.file.Files;
import java.nio.file.Path;
import java.util.ArrayList;
import java.util.List;
import java.util.Set;
import java.util.TreeSet;
import java.util.regex.Matcher;
import java.util.regex.Pattern;

/** The public face of the document, and the rules of ../shared/LANGUAGE.md that can be read off the class and its source. */
public final class LanguageTest {
    private static final Path SOURCE = Path.of("src/main/java/PedlarBook.java");
    private static final Path DOCUMENT = Path.of("../shared/DOC.md");
    private static int wrong = 0;

    public static void main(String[] args) throws Exception {
        face();
        for (Class<?> c : classes()) shape(c);
        String code = withoutComments(Files.readString(SOURCE));
        words(code);
        creations(code);
        lengths(code);
        room();
        System.out.println(wrong == 0 ? "the class keeps to its language" : wrong + " rules are broken");
        if (wrong != 0) System.exit(1);
    }

    private static void must(boolean holds, String rule) {
        if (holds) return;
        wrong++;
        System.out.println("broken: " + rule);
    }

    private static List<Class<?>> classes() {
        List<Class<?>> all = new ArrayList<>(List.of(PedlarBook.class.getDeclaredClasses()));
        all.add(PedlarBook.class);
        return all;
    }

    /** Rule 1: what the document's block of Java lists is public, and nothing else can be seen from outside. */
    private static void face() throws Exception {
        must(Modifier.isPublic(PedlarBook.class.getModifiers()), "the class is public");
        Set<String> want = new TreeSet<>();
        Matcher line = Pattern.compile("(?m)^    public (int|long) (\\w+)\\(([^)]*)\\);").matcher(Files.readString(DOCUMENT));
        while (line.find()) want.add(line.group(1) + " " + line.group(2) + " " + parameters(line.group(3)));
        must(want.size() == 53, "the document's face has 53 methods");
        Set<String> have = new TreeSet<>();
        for (Method m : PedlarBook.class.getDeclaredMethods()) {
            if (Modifier.isPrivate(m.getModifiers())) continue;
            must(Modifier.isPublic(m.getModifiers()), m + " is public or private");
            have.add(m.getReturnType() + " " + m.getName() + " " + m.getParameterCount());
            for (Class<?> p : m.getParameterTypes()) must(p == int.class, m + " takes ints");
        }
        must(have.equals(want), "the methods are those of the document: " + have + " and not " + want);
        Set<String> constants = new TreeSet<>();
        for (Field f : PedlarBook.class.getDeclaredFields()) {
            if (!Modifier.isPrivate(f.getModifiers())) constants.add(f.getType() + " " + f.getName() + " " + f.get(null));
        }
        must(constants.equals(new TreeSet<>(List.of("int UNKNOWN -1", "int OUTSIDE -2", "int STATE -3", "int FULL -4",
            "int NONE -9", "long LOST -9223372036854775808"))), "the constants are those of the document");
        Constructor<?>[] makers = PedlarBook.class.getDeclaredConstructors();
        must(makers.length == 1 && Modifier.isPublic(makers[0].getModifiers()) && makers[0].getParameterCount() == 0,
            "one public constructor");
    }

    private static int parameters(String list) {
        return list.isBlank() ? 0 : list.split(",").length;
    }

    /** Rules 1, 2, 3, 5 and 11. */
    private static void shape(Class<?> c) {
        int modifiers = c.getModifiers();
        must(Modifier.isFinal(modifiers), c + " is final");
        must(c == PedlarBook.class || Modifier.isStatic(modifiers) && !Modifier.isPublic(modifiers)
            && !Modifier.isProtected(modifiers), c + " is static and not public");
        Set<String> face = new TreeSet<>();
        for (Method m : PedlarBook.class.getMethods()) face.add(m.getName());
        for (Method m : c.getDeclaredMethods()) {
            must(m.getParameterCount() <= 7, m + " takes at most seven parameters");
            must(Modifier.isPublic(m.getModifiers()) || !face.contains(m.getName()), m + " bears a public method's name");
        }
        int fields = 0;
        for (Field f : c.getDeclaredFields()) {
            if (!Modifier.isStatic(f.getModifiers())) fields++;
            else must(Modifier.isFinal(f.getModifiers()), f + " is final");
            Class<?> type = f.getType();
            must(type.isPrimitive() || type == int[].class || type == long[].class || type.getNestHost() == PedlarBook.class,
                f + " is of an allowed type");
        }
        must(fields <= 20, c + " has at most twenty fields");
        must(classes().size() <= 12, "at most twelve classes");
    }

    private static String withoutComments(String source) {
        return source.replaceAll("(?s)/\\*.*?\\*/", "").replaceAll("//[^\n]*", "");
    }

    /** Rules 4, 6, 10 and 13. */
    private static void words(String code) {
        String[] banned = {"\\bthrow\\b", "\\btry\\b", "\\bcatch\\b", "\\bsynchronized\\b", "\\bassert\\b", "->", "::",
            "\\bimport\\b", "\\bpackage\\b", "\\bvar\\b", "\"", "Exact", "\\bprotected\\b", "\\bgoto\\b"};
        for (String word : banned) must(!Pattern.compile(word).matcher(code).find(), "the source has no " + word);
        Set<String> known = Set.of("Math.min", "Math.max", "Integer.bitCount", "System.arraycopy", "Long.MIN_VALUE");
        Matcher library = Pattern.compile("\\b(?:Math|Integer|Long|System|Arrays|String|java)\\.\\w+").matcher(code);
        while (library.find()) must(known.contains(library.group()), library.group() + " is of the library told");
    }

    /** Rule 12: all is made with the object; no call makes anything. */
    private static void creations(String code) {
        for (String line : code.split("\n")) {
            if (!line.contains("new ")) continue;
            boolean field = line.matches("\\s*(private )?final [\\w\\[\\]]+ \\w+ = new .*;");
            boolean inSpans = line.matches("\\s*(whos|whats|froms|tos) = new int\\[most\\];");
            must(field || inSpans, "made with the object: " + line.trim());
        }
    }

    /** All is made with the object, so what an object takes is what a run of calls takes: far below a run's room. */
    private static void room() throws Exception {
        int[] taken = taking(new PedlarBook());
        must(taken[0] <= 100, "an object is of " + taken[0] + " objects and arrays");
        must(taken[1] <= 5000, "an object is of " + taken[1] + " fields and elements");
    }

    /** {objects and arrays, fields and elements}; nothing in the object is reached by two ways. */
    private static int[] taking(Object x) throws Exception {
        if (x.getClass().isArray()) return new int[] {1, Array.getLength(x)};
        int[] sum = {1, 0};
        for (Field f : x.getClass().getDeclaredFields()) {
            if (Modifier.isStatic(f.getModifiers())) continue;
            sum[1]++;
            if (f.getType().isPrimitive()) continue;
            f.setAccessible(true);
            int[] part = taking(f.get(x));
            sum[0] += part[0];
            sum[1] += part[1];
        }
        return sum;
    }

    /** Rule 11: methods of at most sixty lines. */
    private static void lengths(String code) {
        int length = 0;
        for (String line : code.split("\n")) {
            boolean head = line.matches("( {4}| {8})[\\w<>\\[\\] ]+\\([^;]*\\{");
            length = head ? 0 : length + 1;
            boolean end = line.matches("( {4}| {8})}");
            if (end) must(length <= 60, "a method of " + length + " lines");
        }
    }
}
