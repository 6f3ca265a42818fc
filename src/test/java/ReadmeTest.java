import java.lang.reflect.Method;
import java.nio.file.Files;
import java.nio.file.Path;
import java.util.Set;
import java.util.TreeSet;
import java.util.regex.Matcher;
import java.util.regex.Pattern;

/** The example of README.md: its calls are made, and each answers what stands behind it. */
public final class ReadmeTest {
    private static final Pattern MADE = Pattern.compile("TabletCells cells = new TabletCells\\((.*?)\\);.*");
    private static final Pattern CALL = Pattern.compile("cells\\.(\\w+)\\((.*?)\\);(?:\\s+// (true|false|-?\\d+)(?:: .*)?)?");

    public static void main(String[] args) throws Exception {
        String page = Files.readString(Path.of("README.md"));
        String example = page.substring(page.indexOf("```java\n") + 8, page.indexOf("```\n", page.indexOf("```java\n") + 8));
        TabletCells cells = null;
        Set<String> shown = new TreeSet<>();
        for (String line : example.split("\n")) {
            Matcher made = MADE.matcher(line);
            Matcher call = CALL.matcher(line);
            if (made.matches()) {
                Object[] n = numbers(made.group(1));
                cells = new TabletCells((int) n[0], (int) n[1], (int) n[2], (int) n[3]);
            } else if (call.matches()) {
                Object answer = method(call.group(1)).invoke(cells, numbers(call.group(2)));
                Check.is("README: " + line + " (here " + answer + ")", String.valueOf(answer).equals(String.valueOf(call.group(3))), true);
                shown.add(call.group(1));
            } else {
                Check.is("README: a line that is no call: " + line, line.isEmpty(), true);
            }
        }
        for (Method m : TabletCells.class.getMethods()) {
            if (m.getDeclaringClass() == TabletCells.class) {
                Check.is("README shows " + m.getName(), shown.contains(m.getName()), true);
            }
        }
        Check.end();
    }

    private static Method method(String name) {
        for (Method m : TabletCells.class.getMethods()) {
            if (m.getName().equals(name)) {
                return m;
            }
        }
        throw new IllegalArgumentException("README.md names " + name);
    }

    private static Object[] numbers(String list) {
        if (list.isEmpty()) {
            return new Object[0];
        }
        String[] words = list.split(", ");
        Object[] numbers = new Object[words.length];
        for (int i = 0; i < words.length; i++) {
            boolean isBoolean = words[i].equals("true") || words[i].equals("false");
            numbers[i] = isBoolean ? (Object) Boolean.valueOf(words[i]) : (Object) Integer.valueOf(words[i]);
        }
        return numbers;
    }
}
