import java.io.IOException;
import java.nio.file.Files;
import java.nio.file.Path;
import java.util.ArrayList;
import java.util.List;
import java.util.regex.Matcher;
import java.util.regex.Pattern;
import java.util.stream.Stream;

/** That the tests name each promise, and that no sentence of the document's terms and promises is left out by them. */
public final class SentencesTest {
    private static final String TEXT = "\"((?:\\\\.|[^\"\\\\])*)\"";
    private static final Pattern SAYS = Pattern.compile("House\\.says\\((\\d+), (?:" + TEXT + "|(\\w+))\\);");
    private static final Pattern NAMED = Pattern.compile("static final String (\\w+) = " + TEXT + ";");
    /** What stands in the document and is no sentence: headings, fences, signatures, how the interface is parted. */
    private static final Pattern FRAME = Pattern.compile("```(?:text)?|## Promise \\d+: [^`]+|`int \\w+\\([^)]*\\)`:|Part [IV]+\\. [A-Z ]+\\."
            + "|CORNERS\\.|Ahead of the calls .*? the interface says: ---- [a-z, ]+\\.");

    public static void main(String[] args) throws IOException {
        String document = House.plain(House.read(Path.of("../shared/DOC.md")));
        boolean[] isQuoted = new boolean[document.length()];
        int[] named = new int[32];
        for (String source : sources()) {
            quotes(source, document, isQuoted, named);
        }
        for (int promise = 1; promise < named.length; promise++) {
            House.due("promise " + promise + " is named by a test", Math.min(named[promise], 1), 1);
        }
        Matcher frame = FRAME.matcher(document);
        while (frame.find()) {
            mark(isQuoted, frame.start(), frame.end());
        }
        int from = document.indexOf("Part I. TEXTS.");
        int to = document.indexOf("## Not promised");
        House.due("the document is there", from >= 0 && to > from ? 1 : 0, 1);
        House.due("what no test quotes", leftOut(document, isQuoted, from, to), "");
        House.finish();
    }

    private static List<String> sources() throws IOException {
        List<String> all = new ArrayList<>();
        try (Stream<Path> files = Files.list(Path.of("tests"))) {
            files.filter(file -> file.toString().endsWith("Test.java")).forEach(file -> all.add(House.read(file)));
        }
        return all;
    }

    private static void quotes(String source, String document, boolean[] isQuoted, int[] named) {
        Matcher says = SAYS.matcher(source);
        while (says.find()) {
            String words = says.group(2) != null ? says.group(2) : constant(source, says.group(3));
            String plain = House.plain(words.replace("\\\"", "\"").replace("\\\\", "\\"));
            int at = document.indexOf(plain);
            House.due("the document says: " + plain, at >= 0 ? 1 : 0, 1);
            int promise = Integer.parseInt(says.group(1));
            House.due("there is a promise " + promise, promise >= 1 && promise <= 31 ? 1 : 0, 1);
            if (promise >= 1 && promise <= 31) {
                named[promise]++;
            }
            while (at >= 0) {
                mark(isQuoted, at, at + plain.length());
                at = document.indexOf(plain, at + 1);
            }
        }
    }

    private static String constant(String source, String name) {
        Matcher all = NAMED.matcher(source);
        while (all.find()) {
            if (all.group(1).equals(name)) {
                return all.group(2);
            }
        }
        return "no constant " + name;
    }

    private static void mark(boolean[] isQuoted, int from, int to) {
        for (int i = from; i < to; i++) {
            isQuoted[i] = true;
        }
    }

    /** Stretches with a letter or a digit in them; a comma between two quotes is no sentence. */
    private static String leftOut(String document, boolean[] isQuoted, int from, int to) {
        StringBuilder rest = new StringBuilder();
        for (int i = Math.max(from, 0); i < to; i++) {
            rest.append(isQuoted[i] ? '|' : document.charAt(i));
        }
        StringBuilder all = new StringBuilder();
        for (String stretch : rest.toString().split("\\|+")) {
            if (stretch.matches(".*[A-Za-z0-9].*")) {
                all.append('[').append(stretch.trim()).append(']');
            }
        }
        return all.toString();
    }
}
