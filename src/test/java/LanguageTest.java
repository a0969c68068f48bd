import java.io.IOException;
import java.nio.file.Files;
import java.nio.file.Path;
import java.util.regex.Matcher;
import java.util.regex.Pattern;

/** Those rules of LANGUAGE.md that can be seen in the text of the class. */
public final class LanguageTest {
    private static final String[] FORBIDDEN = {
        "\\bthrow\\b", "\\bthrows\\b", "\\btry\\b", "\\bcatch\\b", "\\bsynchronized\\b",
        "\\bassert\\b", "\\bpackage\\b", "\\bimport\\b", "\\bprotected\\b", "->", "::", "@",
        "\\w+Exact\\b", "\\bsuper\\.(equals|hashCode|toString)\\b", "\\b(equals|hashCode|toString)\\(",
        "\\bstatic\\s*\\{", "\\bvar\\b", "\\bObject\\b", "while\\s*\\(true\\)", "for\\s*\\(;",
        "\\bThread\\b", "\\bRandom\\b", "System\\.(?!arraycopy)", "\\bnull\\b"};

    public static void main(String[] args) throws IOException {
        Path file = Path.of(System.getProperty("lift.source", "src/main/java/LiftEnvy.java"));
        String text = Files.readString(file);
        if (!text.chars().allMatch(c -> c == '\n' || c >= 32 && c < 127)) {
            Due.fail("a sign that is not plain");
        }
        String code = text.replaceAll("(?s)/\\*.*?\\*/", "").replaceAll("//[^\n]*", "");
        for (String words : FORBIDDEN) {
            Matcher m = Pattern.compile(words).matcher(code);
            if (m.find()) {
                Due.fail("not in the language: " + m.group());
            }
        }
        classes(code);
        methods(code);
        fields(code);
        Due.end();
    }

    private static void classes(String code) {
        Matcher m = Pattern.compile("(?m)^ *([a-z ]*)\\bclass (\\w+)").matcher(code);
        int classes = 0;
        while (m.find()) {
            classes++;
            if (!m.group(2).equals("LiftEnvy") && !m.group(1).contains("private")) {
                Due.fail("not private: " + m.group(2));
            }
            if (!m.group(2).equals("LiftEnvy") && !m.group(1).contains("static")) {
                Due.fail("not static: " + m.group(2));
            }
        }
        if (classes == 0 || classes > 12) {
            Due.fail(classes + " classes");
        }
    }

    private static void methods(String code) {
        Matcher m = Pattern.compile("(?ms)^( {4}| {8})[^ \n][^;={}]*\\(([^)]*)\\) \\{\n.*?^\\1\\}")
            .matcher(code);
        int methods = 0;
        while (m.find()) {
            methods++;
            String head = m.group().substring(0, m.group().indexOf('{')).trim();
            if (m.group().split("\n").length > 60) {
                Due.fail("long: " + head);
            }
            if (m.group(2).split(",").length > 7) {
                Due.fail("too many parameters: " + head);
            }
        }
        if (methods < 60) {
            Due.fail("only " + methods + " methods were looked at");
        }
    }

    private static void fields(String code) {
        Matcher m = Pattern.compile("(?m)^ +(private |public )?static (?!final|class|int \\w+\\()"
            + "[\\w\\[\\]]+ \\w+( =|;)").matcher(code);
        if (m.find()) {
            Due.fail("static, but not final: " + m.group().trim());
        }
    }
}
