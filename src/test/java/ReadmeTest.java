import java.lang.reflect.Method;
import java.lang.reflect.Modifier;
import java.nio.file.Files;
import java.nio.file.Path;
import java.util.HashMap;
import java.util.Map;
import java.util.Set;
import java.util.TreeSet;
import java.util.regex.Matcher;
import java.util.regex.Pattern;

/** README.md says how to use the class: its lines of Java are run, and its table must have every call of the face. */
public final class ReadmeTest {
    private static final Pattern BLOCK = Pattern.compile("(?s)```java\n(.*?)```");
    private static final Pattern MADE = Pattern.compile("PedlarBook book = new PedlarBook\\(\\);");
    private static final Pattern CALL =
        Pattern.compile("(?:(?:int|long) (\\w+) = )?book\\.(\\w+)\\(([^)]*)\\);\\s*(?://\\s*(-?\\d+)(?::.*)?)?");
    private static int wrong = 0;
    private static int checked = 0;

    public static void main(String[] args) throws Exception {
        String page = Files.readString(Path.of("README.md"));
        Matcher block = BLOCK.matcher(page);
        while (block.find()) run(block.group(1));
        must(checked > 20, "the page's lines tell answers");
        table(page.substring(Math.max(0, page.indexOf("## The calls")), Math.max(0, page.indexOf("## Tests"))));
        must(page.contains("`.ci/run`"), "the page says how to run the tests");
        System.out.println(checked + " answers of README.md, " + wrong + " wrong");
        if (wrong != 0) System.exit(1);
    }

    private static void must(boolean holds, String what) {
        if (holds) return;
        wrong++;
        System.out.println("README.md: " + what);
    }

    private static void run(String lines) throws Exception {
        PedlarBook book = null;
        Map<String, Long> names = new HashMap<>();
        for (String line : lines.split("\n")) {
            Matcher call = CALL.matcher(line.trim());
            if (MADE.matcher(line.trim()).matches()) {
                book = new PedlarBook();
            } else if (book != null && call.matches()) {
                long answer = answer(book, call.group(2), call.group(3), names);
                if (call.group(1) != null) names.put(call.group(1), answer);
                if (call.group(4) == null) continue;
                checked++;
                must(answer == Long.parseLong(call.group(4)), line.trim() + " answers " + answer);
            } else {
                must(line.isBlank(), "a line that can't be run: " + line);
            }
        }
    }

    private static long answer(PedlarBook book, String name, String list, Map<String, Long> names) throws Exception {
        String[] words = list.isBlank() ? new String[0] : list.split("\\s*,\\s*");
        Object[] numbers = new Object[words.length];
        Class<?>[] types = new Class<?>[words.length];
        for (int k = 0; k < words.length; k++) {
            numbers[k] = number(words[k], names);
            types[k] = int.class;
        }
        return ((Number) PedlarBook.class.getMethod(name, types).invoke(book, numbers)).longValue();
    }

    private static int number(String word, Map<String, Long> names) {
        if (word.length() == 3 && word.charAt(0) == '\'') return word.charAt(1);
        Long named = names.get(word);
        return named == null ? Integer.parseInt(word) : named.intValue();
    }

    private static void table(String part) {
        Set<String> listed = new TreeSet<>();
        Matcher name = Pattern.compile("`(\\w+)`").matcher(part);
        while (name.find()) listed.add(name.group(1));
        Set<String> face = new TreeSet<>();
        for (Method m : PedlarBook.class.getDeclaredMethods()) {
            if (Modifier.isPublic(m.getModifiers())) face.add(m.getName());
        }
        must(listed.equals(face), "the table has " + listed + ", the class " + face);
    }
}
