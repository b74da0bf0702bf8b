/** Promises 18 select, 19 found, and what Part V says of SELECTORS: at their edges. */
public final class EdgeSelectTest {
    public static void main(String[] args) throws ReflectiveOperationException {
        House.run(EdgeSelectTest.class);
    }

    private static void wrong(String text, int place) {
        House h = new House();
        h.page("<p>x");
        h.select("p");
        House.due("select of [" + text.replace("\n", "|") + "]", h.select(text), -1000 - place);
        House.due("FOUND stays behind [" + text.replace("\n", "|") + "]", h.found(), "1");
    }

    private static void finds(String page, String selector, String due) {
        House h = new House();
        h.page(page);
        House.due("how many by " + selector, h.select(selector), due.isEmpty() ? 0 : due.split(" ").length);
        House.due("FOUND by " + selector, h.found(), due);
    }

    // ---- promise 18

    static void inTheTreesOrder() {
        House.says(18, "The text is a SELECTOR: how many ELEMENTS it MATCHES: these are FOUND, in the tree's order.");
        House h = new House();
        h.page("<b id=x><i>t</i></b><i></i>");
        h.script("del x;add self i;add self i");
        House.due("how many", h.select("i"), 3);
        House.due("not by number", h.found(), "4 1 2");
        finds("<br>".repeat(119), "br", numbers(1, 119));
        finds("<br>".repeat(119), "*", numbers(0, 119));
        finds("<p>x", "b", "");
        finds("x", "*", "0");
    }

    private static String numbers(int from, int to) {
        StringBuilder all = new StringBuilder();
        for (int n = from; n <= to; n++) {
            all.append(n == from ? "" : " ").append(n);
        }
        return all.toString();
    }

    static void partsOfASelector() {
        House.says(18, "SELECTOR: 1 to 3 PARTS with blanks or 10s between.");
        String page = "<p><b><i><u>x</u></i></b></p>";
        finds(page, "u", "4");
        finds(page, "i u", "4");
        finds(page, "b i u", "4");
        finds(page, "b \n i\n\nu", "4");
        wrong("p b i u", 5);
        wrong("p b i ", 5);
        wrong("p b i\n", 5);
        wrong("", 0);
        wrong("p,b", 1);
        wrong("p>b", 1);
    }

    static void marksOfAPart() {
        House.says(18, "PART: a NAME or *, or nothing, then at most 4 of . NAME, # NAME (one of all these at least).");
        String page = "<p id=x class='k l m n'>x</p>";
        finds(page, "p", "1");
        finds(page, "*", "0 1");
        finds(page, ".k", "1");
        finds(page, "#x", "1");
        finds(page, ".k.l.m.n", "1");
        finds(page, "p.k.l.m#x", "1");
        finds(page, "*#x#x#x#x", "1");
        finds(page, "*.k.l.m.n", "1");
        wrong(".k.l.m.n.k", 8);
        wrong("p.k.l.m.n#x", 9);
        wrong("*.k.l.m.n#x", 9);
        wrong("p*", 1);
        wrong("*p", 1);
        wrong(".kp*", 3);
    }

    static void namesInAPart() {
        House.says(18, "WRONG at the first byte with which it can't go on to be one (FOUND stays).");
        finds("<abcdefgh>", "abcdefgh", "1");
        finds("<p id=abcdefgh class=abcdefgh>", "#abcdefgh.abcdefgh", "1");
        wrong("abcdefghi", 8);
        wrong(".abcdefghi", 9);
        wrong("#abcdefghi", 9);
        wrong("9", 0);
        wrong("P", 0);
        wrong("pP", 1);
        wrong(".", 1);
        wrong("#", 1);
        wrong(".9", 1);
        wrong("#9", 1);
        wrong(".k.", 3);
        wrong(".k#", 3);
        wrong("..k", 1);
        wrong(". k", 1);
        wrong("p.k {", 4);
        wrong("p b.", 4);
        wrong("p 9", 2);
        wrong("p b i.", 6);
        wrong("*.k.l.m.n p b*", 13);
    }

    static void blanksAtItsEnds() {
        House.says(18, "select() takes no blanks at its ends.");
        wrong(" p", 0);
        wrong("\np", 0);
        wrong(" ", 0);
        wrong("p ", 2);
        wrong("p\n", 2);
        wrong("p b  ", 5);
    }

    static void partMatches() {
        House.says(18, "A PART MATCHES an ELEMENT of that NAME (as written; div for THE ROOT)");
        finds("<div>x</div>", "div", "0 1");
        finds("<DIV>x</DIV>", "div", "0 1");
        finds("<zz>x</zz><other>", "other", "3");
        finds("<abcdefghij>x", "abcdefgh", "1");
        finds("<p>x", "text", "");
    }

    static void classWords() {
        House.says(18, "whose ATTRIBUTE class has all NAMES told with . among its words (blanks and 10s part them),");
        finds("<b class=k><b class='m k'><b class='k\nm'><b class=' \n k'><b class=kk><b class='k-'><b class=K><b class=''><b class><b>", ".k", "1 2 3 4");
        finds("<b class='k m'><b class=m><b class='k k'>", ".k.m", "1");
        finds("<b class=abcdefgh><b class=abcdefghi><b class=xabcdefgh>", ".abcdefgh", "1");
        finds("<b class='" + "x".repeat(58) + " k'><b class='" + "x".repeat(59) + " k'>", ".k", "1");
    }

    static void idIsThat() {
        House.says(18, "whose ATTRIBUTE id is that told with #.");
        finds("<b id=x><b id='x '><b id=' x'><b id=X><b id=xx><b id><b id='x y'><b>", "#x", "1");
        finds("<b id=abcdefgh><b id=abcdefghi><b id=xabcdefgh>", "#abcdefgh", "1");
        finds("<b id=x><b id=x>", "#x", "1 2");
        finds("<b id=x>", "#x#y", "");
    }

    static void howeverDeep() {
        House.says(18, "A SELECTOR MATCHES an ELEMENT that its last PART MATCHES, if some ELEMENT that this lies in, however deep, MATCHES the part before, and so on.");
        String deep = "<i>" + "<b>".repeat(18) + "<u>";
        finds(deep, "i u", "20");
        finds(deep, "div i u", "20");
        finds(deep, "i i u", "");
        finds(deep, "u u", "");
        finds(deep, "u i", "");
        finds("<i></i><u></u>", "i u", "");
        finds("<p class=k><p class=m>", ".k .m", "");
        finds("<div class=k><b><div class=m><u>", ".m .k u", "");
        finds("<div class=m><b><div class=k><b><div class=m><u>", ".m .k u", "6");
        finds("<div class=k><div><u>", "div div u", "3");
        finds("<u>", "div div u", "");
    }

    static void rootIsAnElement() {
        House.says(18, "THE ROOT is an ELEMENT in all of this.");
        House h = new House();
        h.script("class self k");
        House.due("by class", h.select("div.k"), 1);
        House.due("it", h.it.found(0), 0);
        h.script("add self b");
        House.due("what lies in it", h.select(".k b"), 1);
    }

    // ---- promise 19

    static void foundOfNone() {
        House.says(19, "The i-th FOUND NODE, from 0 on (also one that went since); NONE if there is none such.");
        House h = new House();
        House.due("ahead of any select", h.it.found(0), -1);
        h.page("<b id=x><b></b></b>");
        h.select("b");
        House.due("the first", h.it.found(0), 1);
        House.due("the last", h.it.found(1), 2);
        House.due("one more", h.it.found(2), -1);
        House.due("-1", h.it.found(-1), -1);
        House.due("far", h.it.found(Integer.MAX_VALUE), -1);
        House.due("far below", h.it.found(Integer.MIN_VALUE), -1);
        h.script("del x");
        House.due("also one that went", h.it.found(1), 2);
        h.page("<b>");
        House.due("also of a page that went", h.it.found(1), 2);
        h.select("b");
        House.due("fewer now", h.it.found(1), -1);
        h.select("zz");
        House.due("none now", h.it.found(0), -1);
    }

    static void foundAreNumbers() {
        House.says(19, "FOUND are numbers.");
        House h = new House();
        h.page("<b id=x></b>");
        h.select("b");
        h.script("del x;add self i");
        House.due("another one has its number", h.it.found(0), 1);
        House.due("it is an i", h.it.node(1, 0), 9);
    }
}
