import java.io.IOException;
import java.nio.file.Files;
import java.nio.file.Path;
import java.util.List;
import java.util.regex.Pattern;

/** Rules of LANGUAGE.md that the text of the program shows by itself. Run from the project's folder. */
public final class LanguageTest {
    private static final Path PROGRAM = Path.of("src/main/java/EveningClasses.java");
    private static final int LONGEST_METHOD = 60;
    private static final String[] RULED_OUT = {"\\bimport\\b", "\\bpackage\\b", "\\btry\\b", "\\bcatch\\b", "\\bfinally\\b",
        "\\bsynchronized\\b", "\\bassert\\b", "->", "::", "Exact\\(", "\\bSystem\\.(?!arraycopy)", "\\bObject\\b",
        "\\bThread\\b", "\\bprotected\\b", "\\bstatic \\{", "\\bhashCode\\b",
        "Math\\.(?!max|min|abs|floorDiv|floorMod)", "Float\\.", "Double\\.", "\" \\+", "\\+ \""};

    public static void main(String[] args) throws IOException {
        Due due = new Due();
        List<String> lines = Files.readAllLines(PROGRAM);
        int began = 0;
        for (int number = 1; number <= lines.size(); number++) {
            String line = lines.get(number - 1);
            String code = line.replaceFirst("^\\s*(/\\*\\*?|\\*|//).*", "");
            for (String ruledOut : RULED_OUT) {
                due.is("line " + number + " has " + ruledOut, Pattern.compile(ruledOut).matcher(code).find() ? 1 : 0, 0);
            }
            due.is("line " + number + " has other signs", code.chars().allMatch(c -> c < 127) ? 1 : 0, 1);
            if (line.matches(" {4,8}[a-zA-Z].*\\) \\{")) {
                began = number;
            }
            if (line.matches(" {4,8}\\}")) {
                due.is("method at line " + began + " is short", number - began < LONGEST_METHOD || began == 0 ? 1 : 0, 1);
                began = 0;
            }
        }
        due.end();
    }
}
