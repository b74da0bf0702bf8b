/** A BrowserHouse for tests: texts go in as Strings, THE OUT comes back as one. */
final class House {
    private static int asked = 0;
    private static int wrong = 0;

    final BrowserHouse it = new BrowserHouse();

    static void due(String what, long got, long want) {
        asked++;
        if (got != want) {
            wrong++;
            System.out.println(what + " answered " + got + ", due is " + want);
        }
    }

    static void due(String what, String got, String want) {
        asked++;
        if (!got.equals(want)) {
            wrong++;
            System.out.println(what + " answered [" + got + "], due is [" + want + "]");
        }
    }

    static void finish() {
        System.out.println(asked + " answers, " + wrong + " of them not as due");
        if (wrong != 0 || asked == 0) {
            System.exit(1);
        }
    }

    /** The bytes of a text onto THE TAPE, in place of what was there. */
    House tape(String text) {
        it.end(0);
        for (int i = 0; i < text.length(); i += 20) {
            int[] four = new int[5];
            for (int j = 0; j < 20; j++) {
                int c = i + j < text.length() ? text.charAt(i + j) : 0;
                four[j / 4] = four[j / 4] << 8 | c;
            }
            it.feed(four[0], four[1], four[2], four[3], four[4]);
        }
        it.end(text.length());
        return this;
    }

    int resolve(String text) {
        return tape(text).it.resolve();
    }

    int server(String text) {
        return tape(text).it.server();
    }

    int visit(String text) {
        return tape(text).it.visit();
    }

    int page(String text) {
        return tape(text).it.page();
    }

    int select(String text) {
        return tape(text).it.select();
    }

    int script(String text) {
        return tape(text).it.script();
    }

    int attribute(int n, String text) {
        return tape(text).it.attribute(n);
    }

    /** What stands in THE OUT when so many bytes were told to be there; the number itself if it is below 0. */
    String out(int length) {
        if (length < 0) {
            return String.valueOf(length);
        }
        StringBuilder all = new StringBuilder();
        for (int i = 0; it.out(i) != BrowserHouse.NONE; i++) {
            all.append((char) it.out(i));
        }
        return all.length() == length ? all.toString() : "not " + length + " bytes: " + all;
    }

    String tree() {
        return out(it.serialise(0));
    }

    String address() {
        return out(it.write(0));
    }

    String name(int n) {
        return out(it.name(n));
    }

    String value(int n) {
        return out(it.value(n));
    }

    String found() {
        StringBuilder all = new StringBuilder();
        for (int i = 0; it.found(i) != BrowserHouse.NONE; i++) {
            all.append(it.found(i)).append(' ');
        }
        return all.toString().trim();
    }

    /** All FAULTS that are told, as which@place. */
    String faults() {
        StringBuilder all = new StringBuilder();
        for (int i = 0; it.fault(i, 0) != BrowserHouse.NONE; i++) {
            all.append(it.fault(i, 0)).append('@').append(it.fault(i, 1)).append(' ');
        }
        return all.toString().trim();
    }

    /** x, y, width, height. */
    String box(int n) {
        return it.box(n, 0) + " " + it.box(n, 1) + " " + it.box(n, 2) + " " + it.box(n, 3);
    }

    /** TEXT, begin, bytes, x, y, width, height. */
    String word(int i) {
        StringBuilder all = new StringBuilder();
        for (int what = 0; what < 7; what++) {
            all.append(what == 0 ? "" : " ").append(it.word(i, what));
        }
        return all.toString();
    }

    /** x and y of each WORD. */
    String places() {
        StringBuilder all = new StringBuilder();
        for (int i = 0; it.word(i, 0) != -1000; i++) {
            all.append(i == 0 ? "" : " ").append(it.word(i, 3)).append(',').append(it.word(i, 4));
        }
        return all.toString();
    }

    String styles(int n) {
        StringBuilder all = new StringBuilder();
        for (int property = 0; property < 11; property++) {
            all.append(property == 0 ? "" : " ").append(it.style(n, property));
        }
        return all.toString();
    }

    /** A row of THE PICTURE's points. */
    String row(int y) {
        StringBuilder all = new StringBuilder();
        for (int x = 0; it.point(x, y) != BrowserHouse.NONE; x++) {
            all.append(x == 0 ? "" : " ").append(it.point(x, y));
        }
        return all.toString();
    }
}
