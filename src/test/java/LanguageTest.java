import java.nio.file.Files;
import java.nio.file.Path;
import java.util.List;
import java.util.regex.Matcher;
import java.util.regex.Pattern;

/** Words of Java that ../shared/LANGUAGE.md leaves out, looked for in the class's text. */
public final class LanguageTest {
    private static final String[] OUT = {
        "->", "::", "\\bcatch\\b", "\\btry\\b", "\\bfinally\\b", "\\bassert\\b", "\\bsynchronized\\b", "\\bstatic\\s*\\{",
        "\\bpackage\\b", "\\bequals\\s*\\(", "\\bhashCode\\b", "\\btoString\\b", "\\bDouble\\b", "\\bFloat\\b", "\\bObject\\b",
        "Exact\\b", "\\bnanoTime\\b", "\\bcurrentTimeMillis\\b", "\\bRandom\\b", "\\bThread\\b", "\\bString\\.", "\"\\s*\\+", "\\+\\s*\"",
        "\\bprotected\\b", "\\bvar\\b", "\\byield\\b", "\\bgoto\\b", "\\bSystem\\.(?!arraycopy)", "\\bArrays\\.(?!fill|copyOf)"
    };
    private static final Pattern HEAD = Pattern.compile("^    (?:    )?(?:[a-z].*)?\\b\\w+\\([^;]*\\) \\{$");

    private static String withoutComments(String text) {
        return text.replaceAll("(?s)/\\*.*?\\*/", "").replaceAll("//[^\n]*", "").replaceAll("\"[^\"\n]*\"", "\"\"");
    }

    public static void main(String[] args) throws Exception {
        Due t = new Due();
        Path file = Path.of(args.length > 0 ? args[0] : "src/main/java/DoorsForThree.java");
        String raw = Files.readString(file);
        String text = withoutComments(raw);
        t.due("signs 1 to 127 alone", raw.chars().allMatch(c -> c == '\n' || c >= 32 && c < 127));
        for (String out : OUT) {
            Matcher m = Pattern.compile(out).matcher(text);
            t.due("no " + out, !m.find());
        }
        for (String line : text.split("\n")) {
            if (line.startsWith("import")) {
                t.due(line, line.equals("import java.util.Arrays;"));
            }
        }
        int length = 0;
        String head = "";
        for (String line : List.of(raw.split("\n"))) {
            if (HEAD.matcher(line).find()) {
                head = line.trim();
                length = 0;
            }
            length++;
            if (line.equals("    }") || line.equals("        }")) {
                t.due(head + " is at most sixty lines long", length <= 60);
                length = 0;
            }
        }
        t.end();
    }
}
