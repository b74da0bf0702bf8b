/** Promises 2 feed, 3 end, 4 out, and what Part I says of all texts: at their edges. */
public final class EdgeTextsTest {
    private static final String[] CALLS = {"resolve", "server", "visit", "page", "attribute", "select", "script"};

    public static void main(String[] args) throws ReflectiveOperationException {
        House.run(EdgeTextsTest.class);
    }

    private static int call(House h, String name, String text) {
        switch (name) {
            case "resolve":
                return h.resolve(text);
            case "server":
                return h.server(text);
            case "visit":
                return h.visit(text);
            case "page":
                return h.page(text);
            case "attribute":
                return h.attribute(0, text);
            case "select":
                return h.select(text);
            default:
                return h.script(text);
        }
    }

    private static House fed(int times) {
        House h = new House();
        for (int i = 0; i < times; i++) {
            h.it.feed(0x61616161, 0x61616161, 0x61616161, 0x61616161, 0x61616161);
        }
        return h;
    }

    // ---- promise 2

    static void feedOrder() {
        House.says(2, "Twenty bytes come behind those on THE TAPE, the highest of each int first: how many there are;");
        House h = new House();
        House.due("the first twenty", h.it.feed(0x61626364, 0x65666768, 0x696a6b6c, 0x6d6e6f70, 0x71727374), 20);
        House.due("twenty more", h.it.feed(0x41424344, 0x45464748, 0x494a4b4c, 0x4d4e4f50, 0x51525354), 40);
        House.due("a page of them", h.it.page(), 2);
        House.due("their order", h.name(1), "abcdefghijklmnopqrstABCDEFGHIJKLMNOPQRST");
    }

    static void feedBehindWhatWasCutOff() {
        House.says(2, "Twenty bytes come behind those on THE TAPE, the highest of each int first: how many there are;");
        House h = fed(1);
        h.it.end(3);
        House.due("3 and 20", h.it.feed(0x62626262, 0, 0, 0, 0), 23);
        h.it.end(5);
        h.it.page();
        House.due("behind the third", h.name(1), "aaabb");
    }

    static void feedAnyInt() {
        House.says(2, "Twenty bytes come behind those on THE TAPE, the highest of each int first: how many there are;");
        House h = new House();
        House.due("the least ints", h.it.feed(-1, Integer.MIN_VALUE, -2, -3, -4), 20);
        House.due("their bytes are no text", h.it.page(), -1000);
        h.it.feed(0x61ffffff, 0, 0, 0, 0);
        House.due("byte 255 behind an a", h.it.page(), -1001);
    }

    static void feedBeyond2000() {
        House.says(2, "NONE, and none come, if there would be more than 2000.");
        House h = fed(99);
        House.due("1980 and 20", h.it.feed(0, 0, 0, 0, 0), 2000);
        House.due("2000 and 20", h.it.feed(0, 0, 0, 0, 0), -1);
        House.due("2000 are there", h.it.end(2000), 2000);
        h.it.end(1981);
        House.due("1981 and 20", h.it.feed(0, 0, 0, 0, 0), -1);
        House.due("none came", h.it.end(1982), -1);
        House.due("1981 are there still", h.it.end(1981), 1981);
        h.it.end(1980);
        House.due("1980 and 20 again", h.it.feed(0, 0, 0, 0, 0), 2000);
    }

    static void tapeOf2000() {
        House.says(2, "THE TAPE has bytes, at most 2000.");
        House h = new House();
        House.due("a page of 2000 bytes", h.page("</i>".repeat(499) + "<hr>"), 2);
        House.due("all before", h.it.count(1), 499);
        House.due("and the last one", h.it.node(1, 0), 11);
    }

    // ---- promise 3

    static void endKeepsTheFirst() {
        House.says(3, "THE TAPE has its first n bytes alone: n;");
        House h = new House();
        House.due("none of none", h.it.end(0), 0);
        h.it.feed(0x61626364, 0x65666768, 0x696a6b6c, 0x6d6e6f70, 0x71727374);
        House.due("all of them", h.it.end(20), 20);
        House.due("one less", h.it.end(19), 19);
        House.due("three", h.it.end(3), 3);
        h.it.page();
        House.due("the first three", h.name(1), "abc");
        h.it.feed(0x61626364, 0, 0, 0, 0);
        House.due("none", h.it.end(0), 0);
        House.due("an empty page", h.it.page(), 1);
    }

    static void endOfTooMany() {
        House.says(3, "NONE if there are not so many, or n is below 0.");
        House.due("one of none", new House().it.end(1), -1);
        House h = fed(1);
        House.due("21 of 20", h.it.end(21), -1);
        House.due("far too many", h.it.end(Integer.MAX_VALUE), -1);
        House.due("-1", h.it.end(-1), -1);
        House.due("far below", h.it.end(Integer.MIN_VALUE), -1);
        House.due("all are there still", h.it.end(20), 20);
        h.it.end(3);
        House.due("what was cut off is gone", h.it.end(4), -1);
        House.due("2001 of 2000", fed(100).it.end(2001), -1);
    }

    // ---- promise 4

    static void outIsTheLatest() {
        House.says(4, "Byte i of THE OUT (what was written there latest);");
        House h = new House();
        h.it.write(0);
        House.due("the first", h.it.out(0), '/');
        House.due("the last", h.it.out(6), '/');
        h.it.name(0);
        House.due("another text", h.it.out(0), 'd');
        House.due("its last", h.it.out(2), 'v');
        House.due("nothing of the longer one before", h.it.out(3), -1);
        h.it.write(1);
        House.due("a text of no bytes", h.it.out(0), -1);
    }

    static void outOfNone() {
        House.says(4, "NONE if there is none such.");
        House.due("nothing was written", new House().it.out(0), -1);
        House h = new House();
        h.it.write(0);
        House.due("behind the end", h.it.out(7), -1);
        House.due("below 0", h.it.out(-1), -1);
        House.due("far behind", h.it.out(Integer.MAX_VALUE), -1);
        House.due("far below", h.it.out(Integer.MIN_VALUE), -1);
    }

    static void outStaysWithoutAnythingWritten() {
        House.says(4, "Byte i of THE OUT (what was written there latest);");
        House h = new House();
        h.page("<b id=x>t</b>");
        h.it.name(0);
        h.it.write(3);
        h.it.name(9);
        h.it.serialise(9);
        h.it.value(0);
        h.attribute(1, "y");
        h.attribute(9, "id");
        h.attribute(1, "9");
        h.resolve("//");
        h.resolve("\u0001");
        House.due("calls that answered NONE or WRONG wrote nothing", h.out(3), "div");
    }

    // ---- Part I

    static void bytesOfTexts() {
        House.says(8, "Bytes of texts are 10 and 32 .. 126 (another one is WRONG, ahead of all else).");
        StringBuilder all = new StringBuilder("x\n");
        for (char c = 32; c <= 126; c++) {
            all.append(c);
        }
        House h = new House();
        House.due("all that may be", h.page(all.toString()), 2);
        House.due("are in it", h.name(1), all.toString());
        for (String call : CALLS) {
            for (char c : new char[] {0, 9, 11, 13, 31, 127, 128, 160, 255}) {
                House.due(call + " of byte " + (int) c, call(new House(), call, "" + c), -1000);
                House.due(call + " of byte " + (int) c + " at 2", call(new House(), call, "ab" + c), -1002);
            }
        }
    }

    static void wrongBytesGoAheadOfAllElse() {
        House.says(6, "Bytes of texts are 10 and 32 .. 126 (another one is WRONG, ahead of all else).");
        House h = new House();
        for (int i = 0; i < 12; i++) {
            h.server("//home/" + i + "\n");
        }
        House.due("server, no ADDRESS", h.server("x\u0001"), -1001);
        House.due("server, a thirteenth", h.server("//home/x\n\u007f"), -1009);
        House.due("server, no byte 10", h.server("//home/x\u007f"), -1008);
        House.due("select", h.select("9,\u0001"), -1002);
        House.due("attribute of no NODE", h.attribute(99, "9\u0001"), -1001);
        House.due("resolve of NO ADDRESS", h.resolve("A\u0001"), -1001);
        House.due("visit of NO ADDRESS", h.visit("A\u0001"), -1001);
        House.due("the first of two", h.page("a\u0001b\u0002"), -1001);
        House.due("script: the STEPS ahead of it are not run", h.script("put a b;\u0001"), -1008);
        House.due("none was", h.it.count(12), 0);
    }

    static void placesOfWrong() {
        House.says(8, "WRONG: -1000 less a place of the text.");
        House.due("the first place", new House().page("\u0001"), -1000);
        House.due("the last place of all", new House().page("a".repeat(1999) + "\u0001"), -2999);
        House.due("the length, of nothing", new House().select(""), -1000);
    }

    static void tapeIsEmptyBehindACall() {
        House.says(2, "Behind a text's call the tape is empty, whatever it answers.");
        String[][] rows = {
            {"resolve", "a", "A", "\u0001"}, {"server", "//home/a\n", "A", "\u0001"}, {"visit", "a", "A", "\u0001"},
            {"page", "a", "", "\u0001"}, {"attribute", "id", "9", "\u0001"}, {"select", "p", "9", "\u0001"}, {"script", "stop", "zip", "\u0001"},
        };
        for (String[] row : rows) {
            for (int i = 1; i < row.length; i++) {
                House h = new House();
                call(h, row[0], row[i]);
                House.due(row[0] + " of " + row[i] + ": nothing is left", h.it.end(1), -1);
                House.due(row[0] + " of " + row[i] + ": 20 again", h.it.feed(0, 0, 0, 0, 0), 20);
            }
        }
        House h = new House();
        for (int i = 0; i < 12; i++) {
            h.server("//home/" + i + "\n");
        }
        House.due("server: a thirteenth", h.server("//home/x\n"), -1);
        House.due("nothing is left", h.it.end(1), -1);
    }

    static void tapeStaysOverOtherCalls() {
        House.says(2, "Behind a text's call the tape is empty, whatever it answers.");
        House h = fed(1);
        h.it.tick(1);
        h.it.history(0);
        h.it.press(0, 0);
        h.it.write(0);
        h.it.serialise(0);
        h.it.screen(20);
        House.due("other calls take no text", h.it.end(20), 20);
    }

    static void wrongTextsChangeNothing() {
        House.says(2, "WRONG texts change nothing.");
        House h = new House();
        h.server("//home/a cookie=s:one\n<input id=x><b onload='wait 3 stop'>q</b>");
        h.visit("a");
        h.it.press(2, 2);
        h.select("b");
        h.it.name(0);
        int[] before = new int[17];
        for (int what = 0; what < before.length; what++) {
            before[what] = h.it.count(what);
        }
        for (String call : CALLS) {
            call(h, call, "a\u0001");
        }
        for (String call : new String[] {"server", "attribute", "select"}) {
            call(h, call, "9");
        }
        for (int what = 0; what < before.length; what++) {
            House.due("count(" + what + ")", h.it.count(what), before[what]);
        }
        House.due("FOUND", h.found(), "2");
        House.due("THE OUT", h.out(3), "div");
    }

    static void names() {
        House.says(15, "A NAME: a small letter, then small letters and digits, 1 to 8 in all.");
        House h = new House();
        h.page("<b a=1 z=2 abcdefgh=3 a0z9>");
        House.due("one letter", h.attribute(1, "a"), 1);
        House.due("the last letter", h.attribute(1, "z"), 1);
        House.due("eight", h.attribute(1, "abcdefgh"), 1);
        House.due("digits behind", h.attribute(1, "a0z9"), 0);
        House.due("nine", h.attribute(1, "abcdefghi"), -1008);
        House.due("none", h.attribute(1, ""), -1000);
        House.due("a digit first", h.attribute(1, "0"), -1000);
        House.due("the byte ahead of a", h.attribute(1, "`"), -1000);
        House.due("the byte behind z", h.attribute(1, "{"), -1000);
        House.due("a capital", h.attribute(1, "A"), -1000);
        House.due("the byte ahead of 0", h.attribute(1, "a/"), -1001);
        House.due("the byte behind 9", h.attribute(1, "a:"), -1001);
        House.due("a byte behind letters", h.attribute(1, "a{"), -1001);
        House.due("ahead of letters", h.attribute(1, "a`"), -1001);
        House.due("a blank behind", h.attribute(1, "a "), -1001);
    }

    static void numbers() {
        House.says(6, "A NUMBER: 1 to 4 digits.");
        String[][] rows = {
            {"0", "1"}, {"9", "1"}, {"0000", "1"}, {"9999", "1"}, {"", "-1005"}, {"00000", "-1005"}, {"10000", "-1005"},
            {"/", "-1005"}, {":", "-1005"}, {"-1", "-1005"}, {"1a", "-1005"}, {"+1", "-1005"},
        };
        for (String[] row : rows) {
            House.due("age=" + row[0], new House().server("//a/ age=" + row[0] + "\n"), Integer.parseInt(row[1]));
        }
    }
}
