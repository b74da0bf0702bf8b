import java.nio.charset.StandardCharsets;
import java.nio.file.Files;
import java.nio.file.Path;
import java.util.regex.Matcher;
import java.util.regex.Pattern;

/** What LANGUAGE.md says of the program's text: .ci/run starts this in the project's folder. */
public final class SourceTest {
    private static final Path PROGRAM = Path.of("src/main/java/BrowserHouse.java");
    private static final int LONGEST = 60;

    public static void main(String[] args) throws Exception {
        String source = Files.readString(PROGRAM, StandardCharsets.US_ASCII);
        String bare = bare(source);
        for (String word : "throw try catch finally synchronized assert package extends implements native volatile".split(" ")) {
            House.due("rule 6: " + word, found("\\b" + word + "\\b", bare), 0);
        }
        House.due("rule 2: no lambda", found("->", bare), 0);
        House.due("rule 2: no method reference", found("::", bare), 0);
        House.due("rule 9: every loop has an end", found("while \\(true\\)|for \\(;;|for \\(; ;", bare), 0);
        House.due("rule 4: imports", found("\\bimport\\b", bare), 1);
        House.due("rule 4: that one", found("import java\\.util\\.Arrays;", bare), 1);
        House.due("rule 4: Arrays", found("Arrays\\.", bare), found("Arrays\\.(copyOf|copyOfRange|fill)\\(", bare));
        House.due("rule 4: Math", found("Math\\.", bare), found("Math\\.(max|min)\\(", bare));
        House.due("rule 4: System", found("System\\.", bare), found("System\\.arraycopy\\(", bare));
        House.due("rule 5: no static block", found("static \\{", bare), 0);
        House.due("rule 5: static fields are final", found("(?m)^ +(private )?static (?!final )[^(]*(;| = )", bare), 0);
        methods(bare);
        House.finish();
    }

    /** Without comments and without what stands in quotes. */
    private static String bare(String source) {
        return source.replaceAll("'(\\\\.|[^'\\\\])'", "' '").replaceAll("\"(\\\\.|[^\"\\\\])*\"", "\"\"")
                .replaceAll("(?s)/\\*.*?\\*/", "").replaceAll("//[^\n]*", "");
    }

    private static int found(String pattern, String text) {
        Matcher matcher = Pattern.compile(pattern).matcher(text);
        int many = 0;
        while (matcher.find()) {
            many++;
        }
        return many;
    }

    private static void methods(String bare) {
        String[] lines = bare.split("\n");
        int start = 0;
        for (int i = 0; i < lines.length; i++) {
            if (lines[i].matches(" {4}( {4})?[a-zA-Z].*\\) \\{")) {
                start = i;
            } else if (lines[i].matches(" {4}( {4})?}") && start > 0) {
                House.due("rule 11: lines of " + lines[start].trim(), Math.max(i - start + 1, LONGEST), LONGEST);
                start = 0;
            }
        }
    }
}
