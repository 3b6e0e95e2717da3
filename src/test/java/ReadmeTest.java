import java.io.File;
import java.io.IOException;
import java.lang.reflect.Method;
import java.lang.reflect.Modifier;
import java.nio.file.Files;
import java.nio.file.Path;
import java.util.HashMap;
import java.util.Map;
import java.util.regex.Matcher;
import java.util.regex.Pattern;

/**
 * What README.md says is so: its examples answer as told there, each call of the face and each test is in its tables, and
 * each that is in them is there.
 */
public final class ReadmeTest {
    private static final Check c = new Check();
    private static final Pattern STATEMENT =
        Pattern.compile("(?:int (\\w+) = )?x\\.(\\w+)\\((.*?)\\);(?: +// (-?\\d+)(?:[:,].*)?)?");

    public static void main(String[] args) throws IOException {
        String readme = Files.readString(Path.of("README.md"));
        int blocks = 0;
        Matcher block = Pattern.compile("(?s)```java\n(.*?)```").matcher(readme);
        while (block.find()) {
            blocks++;
            example(block.group(1));
        }
        c.due("README has examples", blocks > 0 ? 1 : 0, 1);
        calls(readme);
        tests(readme);
        c.end();
    }

    /** Each line is a new object, or one call of it, with its answer behind it where it is told. */
    private static void example(String block) {
        SlantSheets x = null;
        Map<String, Integer> names = new HashMap<>();
        for (String line : block.split("\n")) {
            if (line.equals("SlantSheets x = new SlantSheets();")) {
                x = new SlantSheets();
                continue;
            }
            Matcher statement = STATEMENT.matcher(line);
            if (x == null || !statement.matches()) {
                c.due("README: '" + line + "' can be read", line.isBlank() ? 1 : 0, 1);
                continue;
            }
            String[] words = statement.group(3).split(", *");
            for (int i = 0; i < words.length; i++) {
                words[i] = names.containsKey(words[i]) ? "" + names.get(words[i]) : plain(words[i]);
            }
            int answer = new Asked(statement.group(2) + "(" + String.join(", ", words) + ")").of(x);
            if (statement.group(1) != null) {
                names.put(statement.group(1), answer);
            }
            if (statement.group(4) != null) {
                c.due("README: " + line, answer, Integer.parseInt(statement.group(4)));
            }
        }
    }

    private static String plain(String word) {
        return word.startsWith("0x") ? "" + Integer.decode(word) : word;
    }

    private static void calls(String readme) {
        for (Method method : SlantSheets.class.getDeclaredMethods()) {
            if (Modifier.isPublic(method.getModifiers())) {
                boolean there = Pattern.compile("`" + method.getName() + "\\(").matcher(readme).find();
                c.due("README tells of " + method.getName(), there ? 1 : 0, 1);
            }
        }
    }

    private static void tests(String readme) {
        String[] files = new File("src/test/java").list((folder, name) -> name.endsWith("Test.java"));
        c.due("the tests are there", files == null ? 0 : 1, 1);
        int told = 0;
        Matcher row = Pattern.compile("(?m)^\\| `(\\w+Test)` \\|").matcher(readme);
        while (row.find()) {
            told++;
            c.due(row.group(1) + " is there", new File("src/test/java/" + row.group(1) + ".java").isFile() ? 1 : 0, 1);
        }
        c.due("tests in README's table", told, files == null ? -1 : files.length);
    }
}
