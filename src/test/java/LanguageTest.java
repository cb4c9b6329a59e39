import java.io.IOException;
import java.nio.file.Files;
import java.nio.file.Path;
import java.util.List;
import java.util.regex.Pattern;

/** What can be seen of ../shared/LANGUAGE.md in the text of the program, line by line. */
public final class LanguageTest {
    /** What a rule rules out, and its number. */
    private static final String[][] RULED_OUT = {
        {"1", "^package\\b"}, {"1", "\\bprotected\\b"}, {"2", "(?<!case .{1,40}|default )->"}, {"2", "::"},
        {"3", "\\bObject\\b"}, {"3", "\\[\\]\\[\\]\\["},
        {"4", "^import (?!java\\.util\\.(ArrayList|List|Arrays|Iterator|NoSuchElementException);)"},
        {"4", "\\bSystem\\.(?!arraycopy\\b)"}, {"4", "\\b[A-Za-z]+Exact\\b"}, {"4", "[^\\x00-\\x7F]"},
        {"4", "\\b(Math\\.random|String\\.format|Thread|Runtime|Class)\\b"}, {"5", "\\bstatic \\{"},
        {"5", "^ +(private |public )?static (?!final |class |abstract |[^=;]*\\()"},
        {"6", "\\bfinally\\b"}, {"6", "\\btry \\("}, {"6", "\\bsynchronized\\b"}, {"6", "\\bassert\\b"},
        {"6", "\\bextends \\w*Exception\\b"}, {"6", "\\bgetMessage\\b"}, {"6", "\\bcatch \\((?!\\w*Exception )"},
        {"6", "\\bcatch \\(.*\\b(ArrayIndexOutOfBounds|NullPointer|ClassCast|NegativeArraySize|ArrayStore)"},
        {"13", "\\b(currentTimeMillis|nanoTime|Random|File|Socket)\\b"}
    };

    private LanguageTest() {
    }

    public static void main(String[] args) throws IOException {
        Check check = new Check();
        List<String> lines = Files.readAllLines(Path.of("src/main/java/ColumnPages.java"));
        int begun = 0;
        int classes = 0;
        for (int i = 0; i < lines.size(); i++) {
            String code = lines.get(i).replaceAll("/\\*\\*.*|//.*|^ +\\* .*", "");
            for (String[] rule : RULED_OUT) {
                boolean found = Pattern.compile(rule[1]).matcher(code).find();
                check.due("rule " + rule[0] + ", line " + (i + 1) + ": " + code, found ? 1 : 0, 0);
            }
            classes += code.matches(".*\\b(class|interface|enum|record) [A-Z].*") ? 1 : 0;
            if (code.matches(" {4}(?: {4})?[a-z].*\\) \\{")) {
                begun = i;
                check.due("rule 11, parameters, line " + (i + 1), code.split(",").length <= 7 ? 1 : 0, 1);
            } else if (code.matches(" {4}(?: {4})?\\}")) {
                boolean tooLong = begun > 0 && i - begun > 60;
                check.due("rule 11, a method of over sixty lines ends at " + (i + 1), tooLong ? 1 : 0, 0);
                begun = 0;
            }
        }
        check.due("rule 11, at most twelve classes", classes <= 12 ? 1 : 0, 1);
        check.end("LanguageTest");
    }
}
