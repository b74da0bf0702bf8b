/** Promise 17: fault; and how a PAGE TEXT becomes THE TREE. */
public final class FaultTest {
    public static void main(String[] args) {
        signs();
        attributes();
        closing();
        styles();
        noRoom();
        longTexts();
        told();
        House.finish();
    }

    private static void reads(String text, String tree, String faults) {
        House h = new House();
        h.page(text);
        House.due("tree of " + text, h.tree(), "<div>" + tree + "</div>");
        House.due("faults of " + text, h.faults(), faults);
    }

    private static void signs() {
        reads("a < b > c", "a &lt; b &gt; c", "");
        reads("&lt;&gt;&amp;&quot;&lt&LT;&x;", "&lt;&gt;&amp;&quot;&amp;lt&amp;LT;&amp;x;", "");
        reads("&amp;lt;", "&amp;lt;", "");
        reads("a<!-- x > <b> -->b", "ab", "");
        reads("a<!-->b", "a", "1@1");
        reads("a<!--->b-->c", "ac", "");
        reads("a<!---->b", "ab", "");
        reads("<Zz>x</zZ>", "<zz>x</zz>", "");
        reads("<!- a", "&lt;!- a", "");
        reads("</3 <3 </", "&lt;/3 &lt;3 &lt;/", "");
        reads("<B>x</b>", "<b>x</b>", "");
        reads("<abcdefghij>x</abcdefghkl>", "<abcdefgh>x</abcdefgh>", "");
        reads("x<b", "x", "1@1");
        reads("<i>x<b y='>z", "<i>x</i>", "1@4 4@0");
        reads("<b>x</b", "<b>x</b>", "1@4 4@0");
        reads("  <b> \n</b> ", "<b></b>", "");
        reads("a <b> </b> c", "a <b></b> c", "");
        reads("a<br> \n b", "a<br> \n b", "");
        reads("a</b> </i>b", "a b", "3@1 3@6");
    }

    private static void attributes() {
        reads("<b a=1 b='2' c=\"3\" d>x</b>", "<b a=\"1\" b=\"2\" c=\"3\" d=\"\">x</b>", "");
        reads("<b/a/b=c/d\ne>x</b>", "<b a=\"\" b=\"c/d\" e=\"\">x</b>", "");
        reads("<b a='x'b=\"y\">z</b>", "<b a=\"x\" b=\"y\">z</b>", "");
        reads("<b a= c>z</b>", "<b a=\"\" c=\"\">z</b>", "");
        reads("<b =a='x'>z</b>", "<b =a=\"x\">z</b>", "");
        reads("<b \"a>z</b>", "<b \"a=\"\">z</b>", "");
        reads("<b a='>'>z</b>", "<b a=\"&gt;\">z</b>", "");
        reads("<b a=x a=y A=z>w</b>", "<b a=\"x\">w</b>", "2@7 2@11");
        reads("<b a b c d e f>w</b>", "<b a=\"\" b=\"\" c=\"\" d=\"\">w</b>", "2@11 2@13");
        reads("<b abcdefgh abcdefghi>w</b>", "<b abcdefgh=\"\">w</b>", "2@12");
        reads("<b a a a='x>w</b>", "", "1@0");
        reads("<b>x</b a a a>y", "<b>x</b>y", "");
        reads("<b>x</b a='>'>y", "<b>x</b>y", "");
        String sixty = "a".repeat(59);
        reads("<b x='" + sixty + "&lt;z'>w</b>", "<b x=\"" + sixty + "&lt;\">w</b>", "");
        reads("<a><b x x><a y y>", "<a><b x=\"\"></b></a><a y=\"\"></a>", "2@8 2@15 4@3 5@10 4@10");
    }

    private static void closing() {
        reads("<p>a<p>b", "<p>a</p><p>b</p>", "");
        reads("<p><b><i>x<div>y</div>", "<p><b><i>x</i></b></p><div>y</div>", "4@6 4@3");
        reads("<p>x<hr>y", "<p>x</p><hr>y", "");
        reads("<p>x<form>y</form>", "<p>x</p><form>y</form>", "");
        reads("<p>x<h1>y</h1>", "<p>x</p><h1>y</h1>", "");
        reads("<p>x<ul></ul>", "<p>x</p><ul></ul>", "");
        reads("<p>x<zz>y</zz></p>", "<p>x<zz>y</zz></p>", "");
        reads("<ul><li>a<li>b<ul><li>c</ul><li>d</ul>",
                "<ul><li>a</li><li>b<ul><li>c</li></ul></li><li>d</li></ul>", "");
        reads("<li>a<div>b<li>c", "<li>a<div>b</div></li><li>c</li>", "4@5");
        reads("<li><p>a<li>b", "<li><p>a</p></li><li>b</li>", "");
        reads("<a>x<b>y<a>z</a>", "<a>x<b>y</b></a><a>z</a>", "4@4 5@8");
        reads("<div><b>x</div>y", "<div><b>x</b></div>y", "4@5");
        reads("<b><i>x</b>y</i>", "<b><i>x</i></b>y", "4@3 3@12");
        reads("x</div>", "x", "3@1");
        reads("<br></br></img>", "<br>", "3@4 3@9");
        reads("<xx><yy></xx></yy>", "<xx><yy></yy></xx>", "4@4 3@13");
        reads("<div><ul><li><p>x", "<div><ul><li><p>x</p></li></ul></div>", "4@5 4@0");
    }

    private static void styles() {
        reads("<style>a<b>&lt;</style>c", "<style>a<b>&lt;</style>c", "");
        reads("<style>a</STYLE></style >b", "<style>a</STYLE></style>b", "");
        reads("<style>a</stylex>b</style>c", "<style>ab</style>c", "3@8");
        reads("<style>a<!-- </style>c", "<style>a<!-- </style>c", "");
        reads("<style>a", "<style>a</style>", "4@0");
        reads("<style>a</style", "<style>a</style>", "1@8 4@0");
        reads("<style> </style>", "<style></style>", "");
    }

    private static void noRoom() {
        House h = new House();
        String twenty = "<b>".repeat(20);
        h.page(twenty + "t<i>u</i><style>v</style><br>");
        House.due("20 deep", h.it.count(0), 21);
        House.due("text, i, its text, its end TAG, style, ..", h.faults().substring(0, 41),
                "6@60 6@61 6@64 3@65 6@69 6@76 3@77 6@85 4");
        h.page("<b>".repeat(19) + "t<br>");
        House.due("text and br at 20", h.it.count(0), 22);
        h.page("<br>".repeat(119) + "t<br></br><p>u");
        House.due("120 NODES", h.it.count(0), 120);
        House.due("no more", h.faults(), "6@476 6@477 3@481 6@486 6@489");
        h.page("<br>".repeat(118) + "t<br> u</i>v");
        House.due("a TEXT that is there goes on", h.name(119), "t uv");
        House.due("all", h.faults(), "6@473 3@479");
        h.page("<br>".repeat(118) + "<p>" + " ");
        House.due("a blank run needs no room", h.faults(), "");
        h.page("<br>".repeat(117) + "<p><i><b>x<div>y");
        House.due("what is gone closes nothing, but closing goes ahead", h.faults(), "6@474 6@477 4@471 6@478 6@483");
    }

    private static void longTexts() {
        House h = new House();
        h.page("a".repeat(400));
        House.due("400 bytes", h.faults(), "");
        h.page("a".repeat(399) + "&lt;&gt;b</i>c<b>" + "d".repeat(401) + "</b>e");
        House.due("401st, once", h.faults(), "7@403 3@408 7@816");
        House.due("cut", h.it.node(1, 5), 400);
        House.due("cut too", h.it.node(3, 5), 400);
        House.due("the next one", h.name(4), "e");
        h.page("a".repeat(400) + "<!-- -->\n");
        House.due("a blank is the 401st", h.faults(), "7@408");
    }

    private static void told() {
        House h = new House();
        h.page("</b>".repeat(45));
        House.due("all of them", h.it.count(1), 45);
        House.due("the 40th", h.it.fault(39, 1), 156);
        House.due("the 41st is not told", h.it.fault(40, 0), -1);
        House.due("below", h.it.fault(-1, 0), -1);
        House.due("another what", h.it.fault(0, 2), -1);
        House.due("what below 0", h.it.fault(0, -1), -1);
        h.page("x");
        House.due("of the page read latest", h.it.count(1), 0);
        House.due("none", h.it.fault(0, 0), -1);
        h.server("//home/a\n</b>");
        h.visit("/a");
        House.due("of a BODY too", h.faults(), "3@0");
    }
}
