import java.nio.file.Files;
import java.nio.file.Path;
import java.util.List;
import java.util.regex.Matcher;
import java.util.regex.Pattern;

/** LANGUAGE.md, as far as the text of the class can be looked at line by line; run where the project stands. */
public final class RulesTest {
    public static void main(String[] args) throws Exception {
        List<String> lines = Files.readAllLines(Path.of("src/main/java/SecureLines.java"));
        String[] none = {"throw", "try", "catch", "finally", "synchronized", "assert", "instanceof", "enum", "interface",
            "Object", "Class", "System\\.(?!arraycopy)\\w+", "\\w+Exact", "Random", "Thread", "hashCode", "toString",
            "double", "float", "volatile", "native", "transient", "goto", "var", "yield"};
        int at = 0;
        for (String line : lines) {
            at++;
            String code = line.replaceAll("/\\*.*?\\*/", "").replaceAll("'.'", "' '").replaceAll("//.*", "");
            for (String word : none) {
                Check.that("line " + at + " without " + word, !Pattern.compile("\\b" + word + "\\b").matcher(code).find());
            }
            Check.that("line " + at + " without lambda or reference", !code.contains("->") && !code.contains("::"));
            Check.that("line " + at + " without texts", !code.contains("\""));
            Check.that("line " + at + " is not too long", line.length() <= 140);
            for (int i = 0; i < line.length(); i++) {
                Check.that("line " + at + " has signs 32 to 126", line.charAt(i) >= 32 && line.charAt(i) < 127);
            }
            if (code.startsWith("import")) {
                Check.that("line " + at + " imports what is listed", code.equals("import java.util.Arrays;"));
            }
        }
        lengths(lines);
        Check.end("RulesTest");
    }

    /** Methods of some sixty lines. */
    private static void lengths(List<String> lines) {
        Pattern head = Pattern.compile("^( {4}| {8})(?! )(?!.*\\b(class|if|for|while|switch)\\b).*\\(.*\\) \\{$");
        int methods = 0;
        for (int i = 0; i < lines.size(); i++) {
            Matcher matcher = head.matcher(lines.get(i));
            if (matcher.matches()) {
                int end = i;
                while (end < lines.size() && !lines.get(end).equals(matcher.group(1) + "}")) {
                    end++;
                }
                methods++;
                Check.that("the method at line " + (i + 1) + " is short", end - i < 60);
            }
        }
        Check.that("methods were found", methods > 200);
    }
}
