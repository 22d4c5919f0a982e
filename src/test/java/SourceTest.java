import java.io.IOException;
import java.nio.file.Files;
import java.nio.file.Path;
import java.util.List;

/** Rules of LANGUAGE.md that can be seen line by line. */
public final class SourceTest {
    private static final String[] RULED_OUT = {"->", "::", "\\bcatch\\b", "\\bfinally\\b", "\\bsynchronized\\b",
        "\\bassert\\b", "\\bhashCode\\b", "\\bequals\\(", "\\btoString\\b", "\\bSystem\\.(?!arraycopy)", "Exact\\(",
        "\\bThread\\b", "\\binstanceof\\b", "\\bpackage\\b", "\\bstatic \\{", "while \\(true\\)", "for \\(;;\\)",
        "\\b(float|double|long\\[\\]\\[\\])\\b"};
    private static final int LONGEST = 60;

    private SourceTest() {
    }

    public static void main(String[] args) throws IOException {
        List<String> lines = Files.readAllLines(Path.of(args[0]));
        int opened = -1;
        for (int i = 0; i < lines.size(); i++) {
            String line = lines.get(i).replaceAll("^\\s*(/?\\*|//).*", "");
            for (String rule : RULED_OUT) {
                Check.due("line " + (i + 1) + " " + rule, line.matches(".*" + rule + ".*"), false);
            }
            Check.due("line " + (i + 1) + " an import", line.startsWith("import")
                && !line.equals("import java.util.NoSuchElementException;"), false);
            if (line.matches("( {4}| {8})[\\w].*\\) (throws \\w+ )?\\{")) {
                opened = i;
                Check.due("line " + (i + 1) + " parameters", line.split(",").length <= 7, true);
            } else if (opened >= 0 && line.matches("( {4}| {8})\\}")) {
                Check.due("the method of line " + (opened + 1) + " is long", i - opened + 1 <= LONGEST, true);
                opened = -1;
            }
        }
        Check.end("SourceTest");
    }
}
