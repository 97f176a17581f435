import java.io.IOException;
import java.nio.file.Files;
import java.nio.file.Path;
import java.util.List;
import java.util.regex.Matcher;
import java.util.regex.Pattern;

/** Rules of LANGUAGE.md that can be seen in the lines of the program: what it must not use, how long its parts are. */
public final class LanguageTest {
    private static final String[] FORBIDDEN = {
        "^\\s*(import|package)\\b", "->", "::", "\\bcatch\\b", "\\btry\\b", "\\bfinally\\b", "\\bsynchronized\\b", "\\bassert\\b",
        "\\bvar\\b", "\\bSystem\\.(?!arraycopy)", "Exact\\b", "\\bhashCode\\b", "\\btoString\\b", "\\bThread\\b", "\\bRandom\\b",
        "\\brandom\\b", "\\bprotected\\b", "\\bstatic\\s*\\{", "\\bjava\\.", "\"\\s*\\+", "\\+\\s*\"", "[^\\x00-\\x7f]", "\\t"
    };
    private static final String EXCEPTIONS = "IllegalStateException|IllegalArgumentException|IndexOutOfBoundsException";
    private static int wrong = 0;

    public static void main(String[] args) throws IOException {
        List<String> lines = Files.readAllLines(Path.of("src/main/java/Touchpress.java"));
        int classes = 0;
        int methodBegin = -1;
        for (int i = 0; i < lines.size(); i++) {
            String line = lines.get(i);
            String code = line.replaceAll("//.*", "").replaceAll("^\\s*(/\\*\\*|\\*).*", "");
            for (String s : FORBIDDEN) {
                due(i, s, !Pattern.compile(s).matcher(code).find());
            }
            due(i, "a throw of a written text", !code.contains("throw ")
                || code.matches("\\s*(default: )?throw new (" + EXCEPTIONS + ")\\(\"[^\"]*\"\\);"));
            classes += code.matches(".*\\bclass\\b.*\\{") ? 1 : 0;
            if (code.matches("( {4}| {8})[a-zA-Z].*\\(.*[{]?") && !code.contains("=") && !code.endsWith(";")) {
                methodBegin = i;
            }
            if (methodBegin >= 0 && code.matches("( {4}| {8})\\}")) {
                due(methodBegin, "a method of at most sixty lines", i - methodBegin < 60);
                methodBegin = -1;
            }
        }
        due(0, "at most some twelve classes: " + classes, classes <= 13);
        due(0, "no static state", staticState(lines));
        System.out.println(wrong == 0 ? "no line is against the rules that are looked at" : wrong + " lines are");
        if (wrong != 0) {
            System.exit(1);
        }
    }

    private static boolean staticState(List<String> lines) {
        Pattern field = Pattern.compile("\\bstatic\\b(?!.*\\bfinal\\b)[^(]*[;=]");
        for (String line : lines) {
            Matcher m = field.matcher(line);
            if (m.find()) {
                return false;
            }
        }
        return true;
    }

    private static void due(int line, String what, boolean isSo) {
        if (!isSo) {
            wrong++;
            System.out.println("line " + (line + 1) + ": " + what);
        }
    }
}
