import java.io.IOException;
import java.io.UncheckedIOException;
import java.lang.reflect.Method;
import java.nio.file.Files;
import java.nio.file.Path;
import java.util.ArrayList;
import java.util.Arrays;
import java.util.Comparator;
import java.util.List;

/** A BrowserHouse for tests: texts go in as Strings, THE OUT comes back as one. */
final class House {
    private static final Path DOCUMENT = Path.of("../shared/DOC.md");
    private static final int PROMISES = 31;
    private static final int CALLS = 512;
    private static final List<House> MADE = new ArrayList<>();
    private static int asked = 0;
    private static int wrong = 0;
    private static String document = "";
    private static String sentence = "";

    final Counted it = new Counted();

    House() {
        MADE.add(this);
    }

    /** One that may be called without end, by a test that relies on no answer behind the last promised call. */
    static House endless() {
        House made = new House();
        MADE.remove(made);
        return made;
    }

    /** The promise, and the document's own words, by which the answers from here on are due. */
    static void says(int promise, String words) {
        if (document.isEmpty()) {
            document = plain(read(DOCUMENT));
        }
        sentence = "promise " + promise + ", \"" + words + "\": ";
        if (promise < 1 || promise > PROMISES || !document.contains(plain(words))) {
            wrong++;
            System.out.println(sentence + "the document does not say so");
        }
    }

    static String read(Path file) {
        try {
            return Files.readString(file);
        } catch (IOException gone) {
            throw new UncheckedIOException(gone);
        }
    }

    static String plain(String text) {
        return text.replaceAll("\\s+", " ").trim();
    }

    /** Runs each test of a class: a method without parameters that names a sentence and asks for answers. */
    static void run(Class<?> tests) throws ReflectiveOperationException {
        Method[] all = tests.getDeclaredMethods();
        Arrays.sort(all, Comparator.comparing(Method::getName));
        for (Method test : all) {
            if (test.getParameterCount() > 0 || test.getReturnType() != void.class) {
                continue;
            }
            int before = asked;
            sentence = "";
            test.setAccessible(true);
            test.invoke(null);
            if (sentence.isEmpty() || asked == before) {
                wrong++;
                System.out.println(test + " names no sentence, or asks for no answer");
            }
        }
        finish();
    }

    static void due(String what, long got, long want) {
        asked++;
        if (got != want) {
            wrong++;
            System.out.println(sentence + what + " answered " + got + ", due is " + want);
        }
    }

    static void due(String what, String got, String want) {
        asked++;
        if (!got.equals(want)) {
            wrong++;
            System.out.println(sentence + what + " answered [" + got + "], due is [" + want + "]");
        }
    }

    static void finish() {
        for (House house : MADE) {
            if (house.it.calls > CALLS) {
                wrong++;
                System.out.println(house.it.calls + " calls on one object: behind " + CALLS + " nothing is promised");
            }
        }
        System.out.println(asked + " answers, " + wrong + " of them not as due");
        if (wrong != 0 || asked == 0) {
            System.exit(1);
        }
    }

    /** A new one with a page. */
    static House paged(String page) {
        House h = new House();
        h.page(page);
        return h;
    }

    /** A new one with a page on a SCREEN: its style is NODE 1, the TEXT of that 2, and what is shown begins at 3. */
    static House shown(int width, String sheet, String page) {
        House h = new House();
        h.it.screen(width);
        h.page("<style>" + sheet + "</style>" + page);
        return h;
    }

    /** The bytes of a text onto THE TAPE, in place of what was there. */
    House tape(String text) {
        it.end(0);
        for (int i = 0; i < text.length(); i += 20) {
            int[] four = new int[5];
            for (int j = 0; j < 20; j++) {
                int c = i + j < text.length() ? text.charAt(i + j) : 0;
                four[j / 4] = four[j / 4] << 8 | c;
            }
            it.feed(four[0], four[1], four[2], four[3], four[4]);
        }
        it.end(text.length());
        return this;
    }

    int resolve(String text) {
        return tape(text).it.resolve();
    }

    int server(String text) {
        return tape(text).it.server();
    }

    int visit(String text) {
        return tape(text).it.visit();
    }

    int page(String text) {
        return tape(text).it.page();
    }

    int select(String text) {
        return tape(text).it.select();
    }

    int script(String text) {
        return tape(text).it.script();
    }

    int attribute(int n, String text) {
        return tape(text).it.attribute(n);
    }

    /** What stands in THE OUT when so many bytes were told to be there; the number itself if it is below 0. */
    String out(int length) {
        if (length < 0) {
            return String.valueOf(length);
        }
        StringBuilder all = new StringBuilder();
        for (int c = it.out(0); c != BrowserHouse.NONE; c = it.out(all.length())) {
            all.append((char) c);
        }
        return all.length() == length ? all.toString() : "not " + length + " bytes: " + all;
    }

    String tree() {
        return out(it.serialise(0));
    }

    String address() {
        return out(it.write(0));
    }

    String name(int n) {
        return out(it.name(n));
    }

    String value(int n) {
        return out(it.value(n));
    }

    String found() {
        StringBuilder all = new StringBuilder();
        int i = 0;
        for (int n = it.found(i); n != BrowserHouse.NONE; n = it.found(i)) {
            all.append(n).append(' ');
            i++;
        }
        return all.toString().trim();
    }

    /** All FAULTS that are told, as which@place. */
    String faults() {
        StringBuilder all = new StringBuilder();
        for (int i = 0; it.fault(i, 0) != BrowserHouse.NONE; i++) {
            all.append(it.fault(i, 0)).append('@').append(it.fault(i, 1)).append(' ');
        }
        return all.toString().trim();
    }

    /** x, y, width, height. */
    String box(int n) {
        return it.box(n, 0) + " " + it.box(n, 1) + " " + it.box(n, 2) + " " + it.box(n, 3);
    }

    /** TEXT, begin, bytes, x, y, width, height. */
    String word(int i) {
        StringBuilder all = new StringBuilder();
        for (int what = 0; what < 7; what++) {
            all.append(what == 0 ? "" : " ").append(it.word(i, what));
        }
        return all.toString();
    }

    /** x and y of each WORD. */
    String places() {
        StringBuilder all = new StringBuilder();
        for (int i = 0; it.word(i, 0) != -1000; i++) {
            all.append(i == 0 ? "" : " ").append(it.word(i, 3)).append(',').append(it.word(i, 4));
        }
        return all.toString();
    }

    String styles(int n) {
        StringBuilder all = new StringBuilder();
        for (int property = 0; property < 11; property++) {
            all.append(property == 0 ? "" : " ").append(it.style(n, property));
        }
        return all.toString();
    }

    /** A row of THE PICTURE's points. */
    String row(int y) {
        StringBuilder all = new StringBuilder();
        int x = 0;
        for (int c = it.point(x, y); c != BrowserHouse.NONE; c = it.point(x, y)) {
            all.append(x == 0 ? "" : " ").append(c);
            x++;
        }
        return all.toString();
    }
}
