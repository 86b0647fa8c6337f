import java.lang.reflect.Method;
import java.lang.reflect.Modifier;
import java.nio.file.Files;
import java.nio.file.Path;
import java.util.List;
import java.util.regex.Matcher;
import java.util.regex.Pattern;
import java.util.stream.Stream;

/** What README.md tells: its run of calls answers as written there, and it names every call and every test. */
public final class ReadmeTest {
    private static final Pattern CALL = Pattern.compile("x\\.(\\w+)\\(([^)]*)\\);\\s*// (-?\\d+)(?::.*)?");
    private static final Pattern TEXT = Pattern.compile(
            "for \\(char letter : \"([^\"]*)\"\\.toCharArray\\(\\)\\) \\{ x\\.feed\\(letter\\); \\}");
    private static final String MADE = "DoorsForThree x = new DoorsForThree();";

    private final Due t = new Due();
    private DoorsForThree x = null;
    private int calls = 0;

    public static void main(String[] args) throws Exception {
        new ReadmeTest().lookThrough();
    }

    private void lookThrough() throws Exception {
        List<String> page = Files.readAllLines(Path.of("README.md"));
        boolean inside = false;
        for (String line : page) {
            if (line.startsWith("```")) {
                inside = line.equals("```java");
            } else if (inside && !line.isBlank()) {
                makeCall(line.trim());
            }
        }
        t.due("README.md makes calls", calls > 0);
        t.due("README.md makes at most 512 calls", calls <= 512);
        namesAll(String.join("\n", page));
        t.end();
    }

    private void makeCall(String line) throws Exception {
        Matcher call = CALL.matcher(line);
        Matcher text = TEXT.matcher(line);
        if (line.equals(MADE)) {
            x = new DoorsForThree();
        } else if (text.matches()) {
            for (char letter : text.group(1).toCharArray()) {
                x.feed(letter);
                calls++;
            }
        } else if (call.matches()) {
            calls++;
            t.due(line, answer(call.group(1), call.group(2)), Long.parseLong(call.group(3)));
        } else {
            t.due("a call with its answer: " + line, false);
        }
    }

    private long answer(String name, String told) throws Exception {
        String[] words = told.isBlank() ? new String[0] : told.split(",");
        for (Method m : DoorsForThree.class.getMethods()) {
            if (m.getName().equals(name) && m.getParameterCount() == words.length) {
                Object[] given = new Object[words.length];
                for (int i = 0; i < words.length; i++) {
                    long v = Long.parseLong(words[i].trim());
                    if (m.getParameterTypes()[i] == long.class) {
                        given[i] = v;
                    } else {
                        given[i] = (int) v;
                    }
                }
                return ((Number) m.invoke(x, given)).longValue();
            }
        }
        t.due("a call of the face: " + name, false);
        return 0;
    }

    private void namesAll(String page) throws Exception {
        for (Method m : DoorsForThree.class.getDeclaredMethods()) {
            if (Modifier.isPublic(m.getModifiers())) {
                boolean named = Pattern.compile("\\b" + m.getName() + "\\(|`" + m.getName() + "`").matcher(page).find();
                t.due("README.md names " + m.getName(), named);
            }
        }
        try (Stream<Path> files = Files.list(Path.of("src/test/java"))) {
            for (Path file : (Iterable<Path>) files::iterator) {
                String name = file.getFileName().toString().replace(".java", "");
                boolean isTest = name.endsWith("Test");
                t.due("README.md names " + name, !isTest || page.contains("`" + name + "`"));
            }
        }
    }
}
