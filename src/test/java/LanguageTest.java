import java.io.IOException;
import java.nio.file.Files;
import java.nio.file.Path;
import java.util.regex.Matcher;
import java.util.regex.Pattern;

/** What of LANGUAGE.md can be seen in the source's words. */
public final class LanguageTest {
    private static final String[] NEVER = {"\\bthrow\\b", "\\bthrows\\b", "\\btry\\b", "\\bcatch\\b",
        "\\bsynchronized\\b", "\\bassert\\b", "\\bimport\\b", "\\bpackage\\b", "->", "::",
        "Exact\\b", "\\bfloat\\b", "\\bdouble\\b", "\\bequals\\b", "\\bhashCode\\b",
        "\\btoString\\b", "\\bprotected\\b", "\\bstatic\\s*\\{", "\\bwhile\\s*\\(true\\)",
        "for\\s*\\(;;", "\\bnull\\b.*\\bnull\\b", "@"};
    private static final int MOST_LINES_OF_A_METHOD = 60;
    private static final int MOST_CLASSES = 12;
    private static final int MOST_PARAMETERS = 7;

    public static void main(String[] args) throws IOException {
        String told = System.getenv("LOST_SEVENS_SOURCE");
        Path file = Path.of(told == null ? "src/main/java/LostSevens.java" : told);
        String code = Files.readString(file).replaceAll("(?s)/\\*.*?\\*/", "")
                .replaceAll("//[^\n]*", "").replaceAll("\"[^\"\n]*\"", "\"\"");
        for (String never : NEVER) {
            Due.due(never, Pattern.compile(never).matcher(code).find(), false);
        }
        int classes = count(code, "\\b(class|record|enum|interface)\\s+\\w+");
        Due.due("classes", classes <= MOST_CLASSES, true);
        Due.due("static classes", count(code, "\\bstatic final class\\b"), classes - 1);
        Due.due("static fields", count(code, "\\bstatic (?!final\\b)\\w+(\\[\\])* \\w+ *[=;]"), 0);
        methods(code);
        Due.close();
    }

    private static int count(String code, String pattern) {
        return (int) Pattern.compile(pattern).matcher(code).results().count();
    }

    private static void methods(String code) {
        Matcher heads = Pattern.compile("(?m)^( {4}| {8})(?! |return|else|if|for|while|switch)"
                + "[\\w ]+?(\\w+)\\(([^()]*)\\) \\{$").matcher(code);
        int methods = 0;
        while (heads.find()) {
            methods++;
            int parameters = heads.group(3).isBlank() ? 0 : heads.group(3).split(",").length;
            Due.due("parameters of " + heads.group(2), parameters <= MOST_PARAMETERS, true);
            int end = code.indexOf("\n" + heads.group(1) + "}\n", heads.start());
            long lines = code.substring(heads.start(), end).lines().count() + 1;
            Due.due("lines of " + heads.group(2), lines <= MOST_LINES_OF_A_METHOD, true);
        }
        Due.due("methods are found", methods > 80, true);
    }
}
