import java.io.IOException;
import java.nio.file.Files;
import java.nio.file.Path;
import java.util.regex.Matcher;
import java.util.regex.Pattern;

/** What of LANGUAGE.md can be seen in the program's text; its path is the argument. */
public final class LanguageTest {
    private static final String[] FORBIDDEN = {
        "\\b(throw|throws|try|catch|finally|synchronized|assert|package|native|volatile|transient|strictfp)\\b",
        "->", "::", "Exact\\b", "\\bvar\\b", "@\\w+", "\\bimport\\b",
        "\\bSystem\\.(?!arraycopy\\b)", "\\bMath\\.(?!(max|min)\\b)", "\\b(Thread|Random|Runtime|Process|File|Object|Exception|Error)\\b",
        "\\.(equals|hashCode|toString|getClass)\\(", "\\bstatic\\s*\\{", "\\[\\]\\s*\\[\\]\\s*\\["};

    private static int wrong = 0;

    public static void main(String[] args) throws IOException {
        String text = Files.readString(Path.of(args.length > 0 ? args[0] : "src/main/java/WheelHours.java"));
        String code = text.replaceAll("(?s)/\\*.*?\\*/", "").replaceAll("//[^\n]*", "").replaceAll("'.'", "'x'");
        for (String pattern : FORBIDDEN) {
            Matcher m = Pattern.compile(pattern).matcher(code);
            while (m.find()) tell("forbidden: " + m.group());
        }
        int begun = 0;
        int line = 0;
        for (String row : text.split("\n")) {
            line++;
            if (row.length() > 130) tell("line " + line + " is long");
            // the braces of a method stand four or eight blanks in
            if (row.matches("( {4}| {8})\\S.*\\) \\{")) begun = line;
            if (row.matches(" {4}\\}| {8}\\}") && begun > 0) {
                if (line - begun > 60) tell("the method at line " + begun + " is long");
                begun = 0;
            }
        }
        System.out.println(wrong == 0 ? "the text is as due" : wrong + " things are not as due");
        if (wrong != 0) System.exit(1);
    }

    private static void tell(String what) {
        wrong++;
        System.out.println(what);
    }
}
