/** Promises 12 node, 13 kid, 14 name, 15 attribute, 16 serialise. */
public final class TreeTest {
    public static void main(String[] args) {
        nodes();
        kids();
        names();
        attributes();
        serialised();
        longest();
        House.finish();
    }

    private static void nodes() {
        House h = new House();
        h.page("<div a=1 b=2>t<p>uv</p><br></div><zz></zz>");
        int[][] due = {
            {0, -1, 2, 0, 0, 0},
            {0, 0, 3, 0, 2, 0},
            {17, 1, 0, 0, 0, 1},
            {1, 1, 1, 1, 0, 0},
            {17, 3, 0, 0, 0, 2},
            {10, 1, 0, 2, 0, 0},
            {16, 0, 0, 1, 0, 0},
        };
        for (int n = 0; n < due.length; n++) {
            for (int what = 0; what < 6; what++) {
                House.due("node(" + n + ", " + what + ")", h.it.node(n, what), due[n][what]);
            }
        }
        House.due("none", h.it.node(7, 0), -1);
        House.due("below", h.it.node(-1, 0), -1);
        House.due("120", h.it.node(120, 0), -1);
        House.due("far", h.it.node(Integer.MAX_VALUE, 0), -1);
        House.due("another what", h.it.node(0, 6), -1);
        House.due("what below 0", h.it.node(0, -1), -1);
        String all = "div p h1 ul li form span a b i br hr img input button style other";
        String[] tags = all.split(" ");
        for (int i = 0; i < tags.length; i++) {
            h.page("<" + tags[i] + ">");
            House.due("TAG " + tags[i], h.it.node(1, 0), i);
        }
        h.page("<b id=x><i>t</i></b><p>u</p>");
        h.script("del x");
        House.due("one that went", h.it.node(1, 0), -1);
        House.due("what lay in it", h.it.node(3, 0), -1);
        House.due("the other one stays", h.it.node(4, 0), 1);
        House.due("its rank", h.it.node(4, 3), 0);
        h.script("add self ul;add self li");
        House.due("the least number that is free", h.it.node(1, 0), 3);
        House.due("then the next", h.it.node(2, 0), 4);
        House.due("last of all", h.it.node(2, 3), 2);
    }

    private static void kids() {
        House h = new House();
        h.page("<b>x</b><i>y</i>z");
        House.due("first", h.it.kid(0, 0), 1);
        House.due("second", h.it.kid(0, 1), 3);
        House.due("third", h.it.kid(0, 2), 5);
        House.due("none", h.it.kid(0, 3), -1);
        House.due("far", h.it.kid(0, Integer.MAX_VALUE), -1);
        House.due("below", h.it.kid(0, -1), -1);
        House.due("of a TEXT", h.it.kid(5, 0), -1);
        House.due("of none", h.it.kid(6, 0), -1);
        House.due("of below", h.it.kid(-1, 0), -1);
    }

    private static void names() {
        House h = new House();
        h.page("<H1>a&lt;b</H1><longername></longername>");
        House.due("THE ROOT", h.name(0), "div");
        House.due("an ELEMENT", h.name(1), "h1");
        House.due("a TEXT", h.name(2), "a<b");
        House.due("cut to 8", h.name(3), "longerna");
        House.due("none", h.it.name(4), -1);
        House.due("below", h.it.name(-1), -1);
        House.due("120", h.it.name(120), -1);
    }

    private static void attributes() {
        House h = new House();
        h.page("<b x='a&quot;b' LongerName1=c y>t</b>");
        House.due("VALUE", h.out(h.attribute(1, "x")), "a\"b");
        House.due("NAME cut to 8, capitals as small ones", h.out(h.attribute(1, "longerna")), "c");
        House.due("without a VALUE", h.attribute(1, "y"), 0);
        House.due("none such", h.attribute(1, "z"), -1);
        House.due("of a TEXT", h.attribute(2, "x"), -1);
        House.due("of no NODE", h.attribute(9, "x"), -1);
        House.due("nothing", h.attribute(1, ""), -1000);
        House.due("a digit first", h.attribute(1, "9x"), -1000);
        House.due("a capital", h.attribute(1, "xY"), -1001);
        House.due("a ninth", h.attribute(1, "abcdefghi"), -1008);
        House.due("a blank behind", h.attribute(1, "x "), -1001);
        House.due("no NAME ahead of no NODE", h.attribute(99, "x."), -1001);
        House.due("NONE of no NODE", h.attribute(99, "x"), -1);
    }

    private static void serialised() {
        House h = new House();
        h.page("<p A='<\"&>' b>x<br><img src=y>&lt;&gt;&amp;&quot;'</p><style>p > b & \"</style>");
        String p = "<p a=\"&lt;&quot;&amp;&gt;\" b=\"\">x<br><img src=\"y\">&lt;&gt;&amp;&quot;'</p>";
        House.due("all", h.tree(), "<div>" + p + "<style>p > b & \"</style></div>");
        House.due("one", h.out(h.it.serialise(1)), p);
        House.due("a TEXT", h.out(h.it.serialise(5)), "&lt;&gt;&amp;&quot;'");
        House.due("the TEXT of a style", h.out(h.it.serialise(7)), "p > b & \"");
        House.due("none", h.it.serialise(8), -1);
        House.due("below", h.it.serialise(-1), -1);
    }

    private static void longest() {
        House h = new House();
        StringBuilder page = new StringBuilder();
        for (int i = 0; i < 4; i++) {
            page.append("<b>").append("\"".repeat(400)).append("</b>");
        }
        h.page(page.toString());
        House.due("8000 at most", h.it.serialise(0), 8000);
        House.due("the last one", h.it.out(7999) != -1 ? 1 : 0, 1);
        House.due("no more", h.it.out(8000), -1);
        House.due("less of one", h.it.serialise(1), 2407);
    }
}
