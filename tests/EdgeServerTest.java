/** Promise 6 server: SERVER TEXTS at their edges. */
public final class EdgeServerTest {
    private static final String WRONG_AT = "WRONG: at the first byte of the ADDRESS or FIELD that is none, or stands twice;";

    public static void main(String[] args) throws ReflectiveOperationException {
        House.run(EdgeServerTest.class);
    }

    private static void row(String text, int due) {
        House.due("server of [" + text.replace("\n", "|") + "]", new House().server(text), due);
    }

    static void addresses() {
        House.says(6, "SERVER TEXT: an ADDRESS with // and without MARK (as it is behind reading; against //home/),");
        row("//a\n", 1);
        row("//a/\n", 1);
        row("//abcdefgh" + "/abcdefghijkl".repeat(6) + "?" + "q".repeat(40) + "\n", 1);
        row("/a\n", -1000);
        row("a\n", -1000);
        row("?q\n", -1000);
        row("//a/#m\n", -1000);
        row("//a/?q#m\n", -1000);
        row("//a/#\n", -1000);
        row("//abcdefghi/\n", -1000);
        row("//a/1/2/3/4/5/6/7\n", -1000);
        row("//a/?" + "q".repeat(41) + "\n", -1000);
    }

    static void addressBehindReading() {
        House.says(6, "SERVER TEXT: an ADDRESS with // and without MARK (as it is behind reading; against //home/),");
        House h = new House();
        House.due("as it is written", h.server("//a/\none"), 1);
        House.due("without any /", h.server("//a\ntwo"), 1);
        House.due("with . and ..", h.server("//a/./b/..\nthree"), 1);
        h.visit("//a/");
        House.due("all are one ADDRESS", h.name(1), "three");
    }

    static void body() {
        House.says(6, "FIELDS with a blank ahead of each, byte 10, then the BODY, 0 to 1500 bytes.");
        row("//a/\n", 1);
        row("//a/ open\n", 1);
        row("//a/\n" + "b".repeat(1500), 1);
        House h = new House();
        h.server("//a/\n" + "</i>".repeat(374) + "<hr>");
        h.visit("//a/");
        House.due("1500 bytes make a page", h.it.node(1, 0), 11);
        House.due("from the first on", h.it.fault(0, 1), 0);
        h.server("//a/\n\n b");
        h.visit("//a/");
        House.due("the first byte 10 is none of the BODY", h.name(1), "\n b");
        h.server("//a/\n");
        h.visit("//a/");
        House.due("none", h.it.count(0), 1);
    }

    static void fields() {
        House.says(6, "FIELDS, each at most once: age= NUMBER; cookie= NAME : NAME; to= REFERENCE (against the ADDRESS); open.");
        row("//a/ age=1 cookie=a:b to=b open\n", 1);
        row("//a/ open to=b cookie=a:b age=1\n", 1);
        row("//a/ age=0\n", 1);
        row("//a/ age=9999\n", 1);
        row("//a/ cookie=a:b\n", 1);
        row("//a/ cookie=abcdefgh:abcdefgh\n", 1);
        row("//a/ to=\n", 1);
        row("//a/ to=#m\n", 1);
        row("//a/ to=//abcdefgh" + "/abcdefghijkl".repeat(6) + "?" + "q".repeat(40) + "#abcdefgh\n", 1);
    }

    static void fieldsThatAreNone() {
        House.says(6, WRONG_AT);
        String[] none = {
            "age", "age=", "age=10000", "age=x", "age=1x", "age:1", "Age=1", "cookie", "cookie=", "cookie=a", "cookie=a:", "cookie=:b",
            "cookie=a:b:c", "cookie=abcdefghi:b", "cookie=a:abcdefghi", "cookie=9:b", "cookie=a:9", "cookie=a=b", "to", "to=A", "to=//",
            "to=//9/", "to=/1/2/3/4/5/6/7", "to=#", "open=", "opened", "ope", "Open", "x", "=",
        };
        for (String field : none) {
            row("//a/ " + field + "\n", -1005);
            row("//a/ open " + field + "\n", -1010);
        }
        row("A\n", -1000);
        row("\n", -1000);
        row("", -1000);
        row(" //a/\n", -1000);
    }

    static void fieldsTwice() {
        House.says(6, WRONG_AT);
        row("//a/ age=1 age=1\n", -1011);
        row("//a/ age=0 age=0\n", -1011);
        row("//a/ cookie=a:b cookie=c:d\n", -1016);
        row("//a/ to=b to=c\n", -1010);
        row("//a/ to= to=\n", -1009);
        row("//a/ open open\n", -1010);
        row("//a/ open age=1 open\n", -1016);
    }

    static void toAgainstTheAddress() {
        House.says(6, "to= REFERENCE (against the ADDRESS);");
        House h = new House();
        h.server("//far/a/b?q to=c\n");
        h.visit("//far/a/b?q");
        House.due("not against //home/, nor this page", h.address(), "//far/a/c");
        h.server("//far/a/b?q to=?r\n");
        h.visit("//far/a/b?q");
        House.due("its PATH", h.address(), "//far/a/b?r");
    }

    static void howManyThereAre() {
        House.says(6, "SERVER TEXT: how many ANSWERS there are.");
        House h = new House();
        House.due("one", h.server("//a/\n"), 1);
        House.due("two", h.server("//b/\n"), 2);
        House.due("two still", h.server("//b/\n"), 2);
        House.due("WRONG", h.server("//c/"), -1004);
        House.due("three", h.server("//c/\n"), 3);
        House.due("a VISIT takes none away", h.visit("//a/") + h.it.count(2), 4);
    }

    static void inPlaceOfOne() {
        House.says(6, "It is the ANSWER at this ADDRESS (QUERY too), in place of one that was.");
        House h = new House();
        House.due("one", h.server("//a/ to=//b/ open\nold"), 1);
        House.due("another QUERY", h.server("//a/?q\nasked"), 2);
        House.due("another SITE", h.server("//b/\nother"), 3);
        House.due("the same again", h.server("//a/\nnew"), 3);
        h.visit("//a/");
        House.due("nothing is left of the old one", h.address(), "//a/");
        House.due("the new one", h.name(1), "new");
        h.visit("//a/?q");
        House.due("with a QUERY", h.name(1), "asked");
    }

    static void twelve() {
        House.says(6, "ANSWERS are at most 12.");
        House h = new House();
        for (int i = 1; i <= 12; i++) {
            House.due("ANSWER " + i, h.server("//a/" + i + "\nold" + i), i);
        }
        House.says(6, "WRONG; NONE if there would be more than 12.");
        House.due("a thirteenth", h.server("//a/13\nx"), -1);
        House.due("twelve are there", h.it.count(2), 12);
        h.visit("//a/13");
        House.due("it is not", h.it.count(0), 1);
        House.due("the first one in place of itself", h.server("//a/1\nnew1"), 12);
        House.due("the last one too", h.server("//a/12\nnew12"), 12);
        h.visit("//a/1");
        House.due("the new first one", h.name(1), "new1");
        h.visit("//a/12");
        House.due("the new last one", h.name(1), "new12");
        h.visit("//a/2");
        House.due("the others stay", h.name(1), "old2");
        House.due("WRONG texts are WRONG still", h.server("//a/13 x\n"), -1007);
    }

    static void withoutByteTen() {
        House.says(6, "at the length without byte 10;");
        row("//a", -1003);
        row("//a/", -1004);
        row("//a/ open", -1009);
        row("//a/ to=", -1008);
    }

    static void bodyTooLong() {
        House.says(6, "at byte 1501 of the BODY.");
        row("//a/\n" + "b".repeat(1501), -2505);
        row("//a/\n" + "b".repeat(1995), -2505);
        row("//a/ open\n" + "b".repeat(1501), -2510);
        House h = new House();
        h.server("//a/\nold");
        h.server("//a/\n" + "b".repeat(1501));
        h.visit("//a/");
        House.due("the old one stays", h.name(1), "old");
    }

    static void emptyFields() {
        House.says(6, "SERVER TEXT: an empty FIELD (a blank behind a blank, one right ahead of byte 10) is WRONG at its place;");
        row("//a/ \n", -1005);
        row("//a/  open\n", -1005);
        row("//a/ open \n", -1010);
        row("//a/ open  to=b\n", -1010);
        row("//a/ ", -1005);
    }

    static void whatIsWrongFirst() {
        House.says(6, "what is WRONG of the ADDRESS and of FIELDS goes ahead of a missing byte 10, that ahead of byte 1501.");
        row("A", -1000);
        row("A open", -1000);
        row("//a/#m", -1000);
        row("//a/ bad", -1005);
        row("//a/ open bad", -1010);
        row("//a/ open open", -1010);
        row("A\n" + "b".repeat(1501), -1000);
        row("//a/ bad\n" + "b".repeat(1501), -1005);
        row("//a/ open open\n" + "b".repeat(1501), -1010);
    }
}
