import java.io.IOException;
import java.nio.file.Files;
import java.nio.file.Path;
import java.util.List;
import java.util.regex.Pattern;

/** What can be seen of ../shared/LANGUAGE.md in the text of the program, line by line. */
public final class LanguageTest {
    /** The program needs no library but Math.min and Math.max, no texts and no exceptions. */
    private static final String[] RULED_OUT = {"^import", "^package", "->", "::", "\\bthrow", "\\btry\\b", "\\bcatch\\b",
        "\\bassert\\b", "\\bsynchronized\\b", "\\bSystem\\b", "\\bString", "\\bThread\\b", "Exact\\b", "\\binstanceof\\b",
        "\\bdouble\\b", "\\bfloat\\b", "\\bMath\\.(?!(min|max)\\()", "static \\{", "\\bObject\\b", "@", "[^\\x00-\\x7F]"};

    public static void main(String[] args) throws IOException {
        Check check = new Check();
        List<String> lines = Files.readAllLines(Path.of("src/main/java/ColumnPages.java"));
        int begun = 0;
        int classes = 0;
        for (int i = 0; i < lines.size(); i++) {
            String code = lines.get(i).replaceAll("/\\*\\*.*|//.*|^ +\\* .*", "");
            for (String pattern : RULED_OUT) {
                boolean found = Pattern.compile(pattern).matcher(code).find();
                check.due("line " + (i + 1) + ": " + code + " (" + pattern + ")", found ? 1 : 0, 0);
            }
            classes += code.matches(".*\\b(class|interface|enum|record) [A-Z].*") ? 1 : 0;
            if (code.matches(" {4}(?: {4})?[a-z].*\\) \\{")) {
                begun = i;
                check.due("parameters, line " + (i + 1), code.split(",").length <= 7 ? 1 : 0, 1);
            } else if (code.matches(" {4}(?: {4})?\\}")) {
                check.due("a method of over sixty lines ends at " + (i + 1), begun > 0 && i - begun > 60 ? 1 : 0, 0);
                begun = 0;
            }
        }
        check.due("at most twelve classes", classes <= 12 ? 1 : 0, 1);
        check.due("some classes", classes > 1 ? 1 : 0, 1);
        check.end("LanguageTest");
    }
}
