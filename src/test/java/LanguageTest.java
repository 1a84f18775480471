import java.io.IOException;
import java.nio.file.Files;
import java.nio.file.Path;
import java.util.List;
import java.util.regex.Matcher;
import java.util.regex.Pattern;

/** What of ../shared/LANGUAGE.md can be seen in the program's lines; it is run from the project's own folder. */
public final class LanguageTest {
    private static final Path PROGRAM = Path.of("src/main/java/Scripthouse.java");

    /** Words and signs that the rules leave out, or that the program does without. */
    private static final String[] NEVER = {
        "\\bpackage\\b", "\\bimport\\b", "\\btry\\b", "\\bcatch\\b", "\\bfinally\\b", "\\bsynchronized\\b",
        "\\bassert\\b", "\\binstanceof\\b", "->", "::", "\\bnull\\b", "%", "\\bwhile\\b", "Exact\\b", "\\bObject\\b",
    };

    public static void main(String[] args) throws IOException {
        String code = withoutComments(Files.readString(PROGRAM));
        Checks.due("the program has lines", true, code.length() > 1000);
        for (String word : NEVER) {
            Checks.due("never " + word, 0, count(word, code));
        }
        Checks.due("every sign is from 1 to 127", 0, count("[^\\x01-\\x7f]", code));
        indexesAreLookedAt(code);
        onlyConstantsDivide(code);
        rowsAreMadeWithObjects(code);
        Checks.due("at most 12 classes", true, count("\\bclass\\b", code) <= 12);
        methodsAreShort(code.split("\n", -1));
        Checks.end("LanguageTest");
    }

    private static String withoutComments(String code) {
        return code.replaceAll("(?s)/\\*.*?\\*/", "").replaceAll("//[^\n]*", "");
    }

    private static int count(String pattern, String code) {
        int found = 0;
        for (Matcher m = Pattern.compile(pattern).matcher(code); m.find();) {
            found++;
        }
        return found;
    }

    private static void indexesAreLookedAt(String code) {
        Checks.due("a row is read and written in one place each", 2, count("\\w\\[\\w+\\](?!;)", made(code)));
        Checks.due("both look at the index first", 2, count("index >= 0 && index < row\\.length", code));
        Checks.due("no other index", 2, count("\\[[^\\]]", made(code)));
    }

    /** The code without the rows that are made in it. */
    private static String made(String code) {
        return code.replaceAll("new int\\[[A-Z_]+\\]", "");
    }

    private static void onlyConstantsDivide(String code) {
        Checks.due("divisors", count("/", code), count("/ (DAY_HOURS|ALL_PERCENT);", code));
    }

    private static void rowsAreMadeWithObjects(String code) {
        Checks.due("rows", count("new int\\[", code), count("\n {8}final int\\[\\] \\w+ = new int\\[[A-Z_]+\\];", code));
        Checks.due("a new object has four within", 4, count("\\bnew (Planner|Scenes|Budget|Layers)\\(\\)", code));
        Checks.due("what a call makes is what it throws", count("\\bnew \\w+\\(", code) - 4,
                count("throw new \\w+\\(\\);", code));
    }

    /** A method's first line has a brace at its end, and its last one has the same space ahead of a brace alone. */
    private static void methodsAreShort(String[] lines) {
        for (int first = 0; first < lines.length; first++) {
            if (lines[first].matches(" {4,8}[\\w ]+\\([^;]*\\)[\\w, ]*\\{") && !lines[first].matches(" *(if|for) .*")) {
                String end = lines[first].substring(0, lines[first].length() - lines[first].trim().length()) + "}";
                int last = List.of(lines).subList(first, lines.length).indexOf(end) + first;
                Checks.due("lines of" + lines[first], true, last > first && last - first < 60);
                Checks.due("parameters of" + lines[first], true, count(",", lines[first].split("throws")[0]) < 7);
            }
        }
    }
}
