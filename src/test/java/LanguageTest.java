import java.nio.file.Files;
import java.nio.file.Path;
import java.util.regex.Matcher;
import java.util.regex.Pattern;

/** What can be seen by reading of LANGUAGE.md's rules: words and shapes that the class may not have. */
final class LanguageTest {
    private static final Check CHECK = new Check("LanguageTest");
    private static final String[] FORBIDDEN = {
        "\\b(throw|throws|try|catch|finally|synchronized|assert|import|package|yield|volatile)\\b",
        "->", "::", "\\bstatic\\s*\\{", "\\bprotected\\b", "\\b(Exception|Error)\\b", "Exact\\b",
        "\\b(hashCode|toString|getClass|Object|Thread|Runtime|Random)\\b", "\\?>", "@"};

    public static void main(String[] args) throws Exception {
        String source = Files.readString(Path.of("src/main/java/SieveTub.java"));
        for (int i = 0; i < source.length(); i++) {
            CHECK.due("a sign beyond 127 at " + i, source.charAt(i) > 127 ? 1 : 0, 0);
        }
        String code = source.replaceAll("(?s)/\\*.*?\\*/", "").replaceAll("//[^\n]*", "");
        for (String shape : FORBIDDEN) {
            Matcher found = Pattern.compile(shape).matcher(code);
            CHECK.due(shape + " stands in the class", found.find() ? 1 : 0, 0);
        }
        Matcher library = Pattern.compile("\\b(System|Math|Integer)\\.(\\w+)").matcher(code);
        while (library.find()) {
            boolean isListed = library.group().matches(
                    "System\\.arraycopy|Math\\.(min|max|abs)|Integer\\.bitCount");
            CHECK.due(library.group() + " is of the library's list", isListed ? 1 : 0, 1);
        }
        lengthsOfMethods(code);
        CHECK.end();
    }

    /** Some sixty lines a method: from a line that opens one to the brace at the same depth. */
    private static void lengthsOfMethods(String code) {
        String[] lines = code.split("\n");
        Pattern head = Pattern.compile("^( {4}| {8})(?! )[\\w\\[\\] ]*\\w\\(([^;]*)\\) \\{$");
        int methods = 0;
        for (int i = 0; i < lines.length; i++) {
            Matcher opens = head.matcher(lines[i]);
            if (!opens.matches() || lines[i].trim().matches("(if|for|while|switch)\\b.*")) {
                continue;
            }
            methods++;
            int end = i;
            while (end < lines.length && !lines[end].equals(opens.group(1) + "}")) {
                end++;
            }
            CHECK.due("lines of " + lines[i].trim(), end - i + 1 <= 60 ? 1 : 0, 1);
            String parameters = opens.group(2).trim();
            int many = parameters.isEmpty() ? 0 : parameters.split(",").length;
            CHECK.due("parameters of " + lines[i].trim(), many <= 7 ? 1 : 0, 1);
        }
        CHECK.due("methods were found", methods > 60 ? 1 : 0, 1);
    }
}
