import java.nio.file.Files;
import java.nio.file.Path;
import java.util.LinkedHashMap;
import java.util.List;
import java.util.Map;
import java.util.Set;
import java.util.TreeSet;
import java.util.regex.Matcher;
import java.util.regex.Pattern;

/** Words of Java that ../shared/LANGUAGE.md leaves out, looked for in the class's text. */
public final class LanguageTest {
    private static final String[] OUT = {
        "->", "::", "\\bcatch\\b", "\\btry\\b", "\\bfinally\\b", "\\bassert\\b", "\\bsynchronized\\b", "\\bstatic\\s*\\{",
        "\\bpackage\\b", "\\bequals\\s*\\(", "\\bhashCode\\b", "\\btoString\\b", "\\bDouble\\b", "\\bFloat\\b", "\\bObject\\b",
        "Exact\\b", "\\bnanoTime\\b", "\\bcurrentTimeMillis\\b", "\\bRandom\\b", "\\bThread\\b", "\\bString\\.", "\"\\s*\\+", "\\+\\s*\"",
        "\\bprotected\\b", "\\bvar\\b", "\\byield\\b", "\\bgoto\\b", "\\bSystem\\.(?!arraycopy)", "\\bArrays\\.(?!fill|copyOf)"
    };
    private static final Pattern HEAD = Pattern.compile("^    (?:    )?(?:[a-z].*)?\\b\\w+\\([^;]*\\) \\{$");

    private static final Pattern METHOD = Pattern.compile("(?m)^    (?:    )?(?:(?:public|private|static|final) )*"
            + "(?:int|long|boolean|void|String|[A-Z]\\w*)(?:\\[\\])* (\\w+)\\([^;]*?\\) \\{");
    /** The law's reader is the only recursion: its depth is carried as an argument. */
    private static final Set<String> RECURSIVE = Set.of("readLevel", "readOperand");
    private static final int DEEPEST = 8;

    /** Each method's name (like ones together) with the names of those that it calls. */
    private static Map<String, Set<String>> calls(String text) {
        Map<String, String> bodies = new LinkedHashMap<>();
        Matcher m = METHOD.matcher(text);
        String name = null;
        int from = 0;
        while (m.find()) {
            if (name != null) {
                bodies.merge(name, text.substring(from, m.start()), String::concat);
            }
            name = m.group(1);
            from = m.end();
        }
        bodies.merge(name, text.substring(from), String::concat);
        Map<String, Set<String>> calls = new LinkedHashMap<>();
        for (Map.Entry<String, String> body : bodies.entrySet()) {
            Set<String> called = new TreeSet<>();
            Matcher call = Pattern.compile("\\b(\\w+)\\(").matcher(body.getValue());
            while (call.find()) {
                if (bodies.containsKey(call.group(1))) {
                    called.add(call.group(1));
                }
            }
            calls.put(body.getKey(), called);
        }
        return calls;
    }

    /** How many calls stand open at most, with this one and without the recursion; more than DEEPEST: a ring. */
    private static int depth(String name, Map<String, Set<String>> calls, int open) {
        int deepest = 0;
        for (String called : calls.get(name)) {
            boolean again = RECURSIVE.contains(name) && RECURSIVE.contains(called);
            if (!again && open <= DEEPEST) {
                deepest = Math.max(deepest, depth(called, calls, open + 1));
            }
        }
        return deepest + 1;
    }

    private static String withoutComments(String text) {
        return text.replaceAll("(?s)/\\*.*?\\*/", "").replaceAll("//[^\n]*", "").replaceAll("\"[^\"\n]*\"", "\"\"");
    }

    public static void main(String[] args) throws Exception {
        Due t = new Due();
        Path file = Path.of(args.length > 0 ? args[0] : "src/main/java/DoorsForThree.java");
        String raw = Files.readString(file);
        String text = withoutComments(raw);
        t.due("signs 1 to 127 alone", raw.chars().allMatch(c -> c == '\n' || c >= 32 && c < 127));
        for (String out : OUT) {
            Matcher m = Pattern.compile(out).matcher(text);
            t.due("no " + out, !m.find());
        }
        for (String line : text.split("\n")) {
            if (line.startsWith("import")) {
                t.due(line, line.equals("import java.util.Arrays;"));
            }
        }
        Map<String, Set<String>> calls = calls(text);
        t.due("methods were found", calls.size() > 45);
        for (String name : calls.keySet()) {
            t.due(name + " calls at most eight deep", depth(name, calls, 1) <= DEEPEST);
        }
        int length = 0;
        String head = "";
        for (String line : List.of(raw.split("\n"))) {
            if (HEAD.matcher(line).find()) {
                head = line.trim();
                length = 0;
            }
            length++;
            if (line.equals("    }") || line.equals("        }")) {
                t.due(head + " is at most sixty lines long", length <= 60);
                length = 0;
            }
        }
        t.end();
    }
}
