import java.io.IOException;
import java.nio.file.Files;
import java.nio.file.Path;
import java.util.regex.Matcher;
import java.util.regex.Pattern;

/** Those rules of LANGUAGE.md that can be seen from the text of the class. Run from the project's folder. */
public final class LanguageTest {
    private static final String[] BANNED = {
        "^\\s*(import|package)\\b", "->", "::", "@", "\\bstatic\\s*\\{", "\\bfinally\\b", "\\bsynchronized\\b", "\\bassert\\b",
        "\\bcatch\\b", "\\bthrow\\b", "\\bSystem\\.(?!arraycopy\\()", "\\bMath\\.\\w*Exact\\b", "\\b(Integer|Long|Math)\\.[A-Z]", "\\b(equals|hashCode|toString)\\s*\\(",
        "\"\\s*\\+|\\+\\s*\"", "\\b(Object|HashMap|Map|Set|Random|Thread|Runnable|Function|Optional|Stream)\\b",
        "\\b(double|float)\\b", "\\bwhile\\s*\\(\\s*true", "for\\s*\\(\\s*;\\s*;", "[^\\x00-\\x7F]"};

    private static void banned(String code) {
        for (String regex : BANNED) {
            Matcher m = Pattern.compile(regex, Pattern.MULTILINE).matcher(code);
            Due.is("found of " + regex, m.find() ? 1 : 0, 0);
        }
    }

    private static void classes(String code) {
        int classes = 0;
        Matcher m = Pattern.compile("\\b(class|enum|interface|record)\\s+[A-Z]\\w*").matcher(code);
        while (m.find()) {
            classes++;
        }
        Due.is(classes + " classes: too many", classes > 12 ? 1 : 0, 0);
        Matcher statics = Pattern.compile("^\\s*(private |public )?static (?!final)[^({\n]*;", Pattern.MULTILINE).matcher(code);
        Due.is("a static field that isn't final", statics.find() ? 1 : 0, 0);
    }

    private static void methods(String code) {
        String[] lines = code.split("\n");
        int start = -1;
        String end = "";
        for (int i = 0; i < lines.length; i++) {
            if (start < 0 && lines[i].matches(" {4,8}[\\w\\[\\] ]+\\([^;]*\\) \\{") && !lines[i].matches(" *(if|for|while|switch).*")) {
                start = i;
                end = lines[i].replaceAll("\\S.*", "") + "}";
                Due.is(lines[i] + ": more than seven parameters", lines[i].split(",").length > 7 ? 1 : 0, 0);
            } else if (start >= 0 && lines[i].equals(end)) {
                Due.is(lines[start] + ": more than sixty lines", i - start > 60 ? 1 : 0, 0);
                start = -1;
            }
        }
        Due.is("a method without an end", start, -1);
    }

    public static void main(String[] args) throws IOException {
        String text = Files.readString(Path.of("src/main/java/BrothersField.java"));
        String code = text.replaceAll("(?s)/\\*.*?\\*/", "").replaceAll("//[^\n]*", "");
        banned(code);
        classes(code);
        methods(code);
        Due.end();
    }
}
