import java.io.IOException;
import java.nio.file.Files;
import java.nio.file.Path;
import java.util.regex.Matcher;
import java.util.regex.Pattern;

/** What of LANGUAGE.md can be seen in the text of the source; .ci/run starts it in the project's directory. */
public final class LanguageTest {
    public static void main(String[] args) throws IOException {
        Due due = new Due("LanguageTest");
        String source = Files.readString(Path.of("src/main/java/BallBoxes.java"));
        String code = source.replaceAll("(?s)/\\*.*?\\*/", "").replaceAll("//[^\n]*", "");
        String words = "throw|throws|try|catch|synchronized|assert|import|package|native|volatile|transient|strictfp|var"
            + "|protected|double|float|Thread|Object|hashCode|toString|System\\.(?!arraycopy)\\w+|\\w+Exact|Random|Class";
        none(due, code, "\\b(" + words + ")\\b");
        none(due, code, "->|::|@|\"|\\[\\]\\s*\\[");
        none(due, code, "\\bstatic\\s*\\{");
        none(due, code, "\\b(Math|Integer|Long)\\.(?!max\\b|min\\b|bitCount\\b)\\w+");
        none(due, code, "\\w+\\s*\\((?:[^(),]*,){7,}[^(),]*\\)\\s*\\{");
        none(due, code, "while\\s*\\(true|for\\s*\\([^;()]*;\\s*;");
        due.is("public classes", count(code, "public\\s+final\\s+class"), 1);
        due.holds("some twelve classes", count(code, "\\bclass\\b") <= 12);
        due.holds("characters 0 to 127", source.chars().allMatch(c -> c < 128));
        shortMethods(due, code);
        onlyConstructorsMake(due, code);
        due.end();
    }

    private static void none(Due due, String code, String pattern) {
        Matcher found = Pattern.compile(pattern).matcher(code);
        boolean any = found.find();
        due.holds("no " + pattern + (any ? ", but: " + found.group() : ""), !any);
    }

    private static int count(String code, String pattern) {
        return (int) Pattern.compile(pattern).matcher(code).results().count();
    }

    private static void shortMethods(Due due, String code) {
        Matcher method = Pattern.compile("(?m)^( {4}| {8})[a-z][^\n;=]*\\) \\{\n((?s).*?)^\\1\\}").matcher(code);
        int methods = 0;
        while (method.find()) {
            methods++;
            int lines = count(method.group(2), "\n");
            due.holds("a method of " + lines + " lines: " + method.group().trim().split("\n")[0], lines <= 60);
        }
        due.holds("methods were found", methods > 50);
    }

    /** One room for all calls: a call makes no object and no array. */
    private static void onlyConstructorsMake(Due due, String code) {
        Matcher made = Pattern.compile("(?m)^(.*)\\bnew\\b.*$").matcher(code);
        while (made.find()) {
            String line = made.group().trim();
            boolean field = line.startsWith("private final ");
            boolean inConstructor = made.start() > code.indexOf("public BallBoxes()")
                && made.end() < code.indexOf("public int set(");
            due.holds("made in a constructor: " + line, field || inConstructor);
        }
    }
}
