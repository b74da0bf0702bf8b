/** Objects that were used before: a text's last bytes, a page, a STEP or a TASK leaves nothing behind that the document does not name. */
public final class EdgeAgainTest {
    private static final String PAGE_IS = "The page is what the text, a PAGE TEXT, gives;";
    private static final String[] PAGES = {
        "",
        "a bb ccc dddd",
        "<b>x</b><i>y</i><u>z</u>",
        "<div><p>a</p></div><p>b</p>c",
        "<style>#x{color:1}b{float:left;width:9;height:9}p{margin:5}</style><b id=x>a</b><p>b</p>c d",
        "<style>b{color:2}b{color:3}i{display:none}.f{display:flex}</style><b>a</b><i>b c</i><div class=f><p>d</p></div>",
        "<input type=check checked><input value=ab><button>c d</button><img>",
        "<div><div><div><b>a<i>b</i></b></div></div></div><hr>",
        "<ul><li>a<li>b</ul><h1>c</h1></b><q",
        "<style>p{margin:5}</style><div><p>a</p></div>",
        "<style>.k{padding:1}p{margin:5}</style><div class=k><p>a</p></div>",
        "<style>div{padding:3;align:right}*{size:2}</style>e<br>f<span> g</span>",
    };

    public static void main(String[] args) throws ReflectiveOperationException {
        House.run(EdgeAgainTest.class);
    }

    /** All that can be asked of a small page. */
    private static String all(House h) {
        StringBuilder all = new StringBuilder(h.tree()).append(' ').append(h.faults()).append(' ').append(h.places());
        for (int n = 0; n < 12; n++) {
            all.append('|').append(h.it.node(n, 0)).append(' ').append(h.it.node(n, 1)).append(' ').append(h.it.node(n, 2)).append(' ').append(h.it.kid(n, 0));
            all.append(' ').append(h.it.box(n, 0)).append(' ').append(h.it.box(n, 1)).append(' ').append(h.it.box(n, 3)).append(' ').append(h.it.style(n, 1));
            all.append(' ').append(h.it.checked(n));
        }
        for (int at = 1; at < 30; at += 4) {
            all.append(' ').append(h.it.point(at, at / 2)).append(' ').append(h.it.top(at, at / 2));
        }
        return all.append(' ').append(h.it.count(14)).append(' ').append(h.it.count(16)).toString();
    }

    static void pageAfterPage() {
        House.says(8, PAGE_IS);
        for (String page : PAGES) {
            House fresh = new House();
            int nodes = fresh.page(page);
            String due = all(fresh);
            for (String before : PAGES) {
                House h = new House();
                h.page(before);
                h.it.point(1, 1);
                House.due("NODES of [" + page + "] behind [" + before + "]", h.page(page), nodes);
                House.due("[" + page + "] behind [" + before + "]", all(h), due);
            }
        }
    }

    static void firstBytesOfPages() {
        House.says(3, "THE TAPE has its first n bytes alone: n;");
        String[] pages = {"<b a='x' a=y c>&lt;t</b><!-- c -->u", "<style>p{x}</style>&quot;<i\n=\"q\"></i a=1>", "x</<p/>&amp;&gt;<!----><H1 id=z>"};
        for (String page : pages) {
            for (int n = 0; n <= page.length(); n++) {
                House cut = new House().tape(page);
                cut.it.end(n);
                House own = new House();
                House.due("NODES of " + n + " bytes of " + page, cut.it.page(), own.page(page.substring(0, n)));
                House.due(n + " bytes of " + page, cut.tree() + " " + cut.faults(), own.tree() + " " + own.faults());
            }
        }
        House h = new House().tape("<style>a</style>b");
        h.it.end(13);
        h.it.page();
        House.due("what is cut off of </style", h.name(2), "a</sty");
        h.tape("x&lt;");
        h.it.end(4);
        h.it.page();
        House.due("what is cut off of &lt;", h.name(1), "x&lt");
        h.tape("<b>");
        h.it.end(2);
        h.it.page();
        House.due("what is cut off of <b>", h.faults(), "1@0");
        h.tape("<b>");
        h.it.end(1);
        h.it.page();
        House.due("all but the <", h.name(1), "<");
        h.tape("</b>");
        h.it.end(2);
        h.it.page();
        House.due("all but the </", h.name(1), "</");
        h.tape("<!---->");
        h.it.end(6);
        h.it.page();
        House.due("what is cut off of -->", h.faults(), "1@0");
    }

    static void pagesOfBodies() {
        House.says(17, "A PAGE TEXT (a BODY, or told) is read from the left;");
        String[] pages = {"<b a='x' c>&lt;t</b u><!-- c -->", "<style>p{x}</style>&quot;<i\n=\"q\">", "</<p/>&amp;<H1 id=z>"};
        for (String page : pages) {
            for (int n = 0; n <= page.length(); n++) {
                House told = new House();
                told.page(page.substring(0, n));
                House body = new House();
                body.server("//home/a\n" + page.substring(0, n));
                body.visit("a");
                House.due("a BODY of " + n + " bytes of " + page, body.tree() + " " + body.faults(), told.tree() + " " + told.faults());
            }
        }
    }

    private static int cut(String call, String text, int n) {
        House h = new House().tape(text);
        h.it.end(n);
        switch (call) {
            case "resolve":
                return h.it.resolve();
            case "visit":
                return h.it.visit();
            case "server":
                return h.it.server();
            case "select":
                return h.it.select();
            case "attribute":
                return h.it.attribute(0);
            default:
                return h.it.script();
        }
    }

    static void firstBytesOfTexts() {
        House.says(3, "THE TAPE has its first n bytes alone: n;");
        Object[][] rows = {
            {"resolve", "//ab", 2, -1}, {"resolve", "//ab", 1, 7}, {"resolve", "a?q", 2, 9}, {"resolve", "?qq#m", 2, 9}, {"resolve", "#mm", 1, -1},
            {"resolve", "/../a", 3, 7}, {"visit", "//ab", 2, -1}, {"visit", "#m", 1, -1}, {"server", "//a/ open\n", 4, -1004}, {"server", "//a/ open\n", 9, -1009},
            {"server", "//a/\n", 4, -1004}, {"server", "//a/ age=12\n", 9, -1005}, {"select", "p  b", 2, -1002}, {"select", "p.k", 1, 0}, {"select", "p.k", 2, -1002},
            {"select", "*.k", 1, 1}, {"select", "pp", 1, 0}, {"select", "p*", 1, 0}, {"select", "*", 0, -1000}, {"attribute", "ab-", 2, -1}, {"attribute", "a", 0, -1000},
            {"script", "stop;stop", 4, 1}, {"script", "stop x", 4, 1}, {"script", "stop", 3, 0}, {"script", "text self v", 9, 0}, {"script", "text self v", 10, 1},
            {"script", "put a b", 6, 0}, {"script", "wait 1 stop", 7, 1}, {"script", "wait 1 stop", 6, 0},
        };
        for (Object[] row : rows) {
            House.due(row[2] + " bytes of " + row[1] + " for " + row[0], cut((String) row[0], (String) row[1], (Integer) row[2]), (Integer) row[3]);
        }
        House h = new House();
        h.script("text self v ");
        h.script("text self");
        House.due("nothing of a longer script before", h.it.count(11), 1);
    }

    static void oneReferenceBehindTheOther() {
        House.says(5, "The text, a REFERENCE against this page's ADDRESS, is written to THE OUT as an ADDRESS: how many bytes;");
        House h = new House();
        h.visit("//shop/a/b?x=1&y=22#k");
        h.resolve("../../../../..");
        House.due("no .. is left over", h.out(h.resolve("/c/d/e")), "//shop/c/d/e");
        h.resolve("//abcdefgh/zzzzzzzzzzzz/zzzzzzzzzzzz?zzzzzzzzzzzzzzzzzz#zzzzzzzz");
        House.due("the base's QUERY", h.out(h.resolve("#m")), "//shop/a/b?x=1&y=22#m");
        h.resolve("/1/2/3/4/5/6/7");
        House.due("none of NO ADDRESS", h.out(h.resolve("c")), "//shop/a/c");
        String longest = "//abcdefgh" + "/abcdefghijkl".repeat(6) + "?" + "q".repeat(40);
        House far = new House();
        far.visit(longest + "#k");
        House.due("the longest base", far.out(far.resolve("#m")), longest + "#m");
        h.resolve("//zz/zz/zz?zz");
        House.due("nor of a PATH", h.out(h.resolve("?q")), "//shop/a/b?q");
    }

    static void onePageBehindTheOther() {
        House.says(5, "SEGMENTS with / between, one at least and the first one not empty (in place of the base's last one);");
        for (String before : new String[] {"//home/a/b/c", "//home/ab/c/d", "//home/a/", "//home/abc/d", "//home///", "//home/a?q#k"}) {
            House h = new House();
            h.visit(before);
            h.visit("//home/a");
            House.due("nothing of the longer " + before, h.out(h.resolve("c")), "//home/c");
            House.due("nor of its PATH", h.out(h.resolve("#m")), "//home/a#m");
            House.due("nor further up", h.out(h.resolve("../c/.")), "//home/c/");
        }
    }

    static void sitesOfEight() {
        House.says(7, "COOKIES: of a SITE, a NAME and a VALUE (a NAME), at most 20 in all;");
        House h = new House();
        h.server("//abcdefgh/ cookie=n:one\n");
        h.server("//abcdefgi/ cookie=n:two\n");
        h.visit("//abcdefgh/");
        h.visit("//abcdefgi/");
        House.due("not alike but for the last byte", h.it.count(3), 2);
        h.visit("//abcdefgh/x");
        House.due("the one's", h.out(h.it.write(2)), "n=one");
        h.script("put a v");
        h.visit("//abcdefgi/x");
        h.script("read self a");
        House.due("nor are their STORES", h.it.count(0), 1);
        h.script("put abcdefgh v;put abcdefgi w;read self abcdefgh");
        House.due("nor their NAMES", h.name(1), "v");
    }

    static void historyOneByOne() {
        House.says(9, "HISTORY (20 at most, the first goes) loses what is ahead and gets it;");
        House h = new House();
        for (int i = 1; i <= 23; i++) {
            h.visit("/" + i);
        }
        for (int i = 22; i >= 4; i--) {
            House.due("back to " + i, h.it.history(-1), i - 4);
            House.due("there", h.address(), "//home/" + i);
        }
        House.due("no further", h.it.history(-1), -1);
    }

    static void newInputsInOldNumbers() {
        House.says(30, "An input has a VALUE (at first its ATTRIBUTE value, else nothing; at most 24 bytes) and is CHECKED or not (ATTRIBUTE checked), if its ATTRIBUTE type is check.");
        House h = new House();
        h.page("<input id=x type=check checked value=v>");
        h.script("del x;add self input");
        House.due("its number", h.it.node(1, 0), 13);
        House.due("not CHECKED", h.it.checked(1), 0);
        House.due("no VALUE", h.it.value(1), 0);
        House.due("no ATTRIBUTES", h.it.node(1, 4), 0);
        h.it.press(1, 1);
        House.due("no check: it has the FOCUS", h.it.count(13), 1);
        h.page("<input type=check checked>");
        h.page("<input type=check>");
        House.due("nor is that of a new page", h.it.checked(1), 0);
    }

    static void treesThatChange() {
        House.says(28, "del: I goes with all in it (THE ROOT: passed over);");
        House h = new House();
        h.page("<p onpress='add self b;add self i;del self'>a</p>c");
        h.it.press(3, 3);
        House.due("with what came just now", h.it.count(0), 2);
        House.due("c is there", h.tree(), "<div>c</div>");
        House.due("one lies in THE ROOT", h.it.node(0, 2), 1);
        h.page("<b></b><p id=x></p>");
        House.due("del", h.script("del x"), 1);
        House.due("the last one is nothing then", h.script("text x v"), 0);
        House.due("one lies in THE ROOT then", h.it.node(0, 2), 1);
        House.due("no second", h.it.kid(0, 1), -1);
        h.page("<i></i><p id=x>a<b>c</b></p>");
        h.script("text x ");
        House.due("nothing lies in it", h.it.kid(2, 0), -1);
        House.due("nothing at all", h.tree(), "<div><i></i><p id=\"x\"></p></div>");
        h.script("add x u");
        House.due("then one", h.tree(), "<div><i></i><p id=\"x\"><u></u></p></div>");
    }

    static void stylesThatChange() {
        House.says(20, "class: its ATTRIBUTE class is that (a fifth ATTRIBUTE: passed over);");
        House h = new House();
        h.page("<style id=s>.k{color:1;display:block}</style><b id=x>a</b>");
        House.due("ahead", h.it.style(3, 1) + " " + h.it.box(3, 0), "63 -1000");
        h.script("class x k");
        House.due("behind", h.it.style(3, 1) + " " + h.it.box(3, 0), "1 0");
        h.script("text s .k{color:2}");
        House.due("another sheet", h.it.style(3, 1) + " " + h.it.box(3, 0), "2 -1000");
        h.script("del s");
        House.due("none", h.it.style(3, 1) + " " + h.it.count(16), "63 0");
    }

    static void fortiethSelectorStays() {
        House.says(20, "At most 40 SELECTORS in all (each with its RULE's DECLARATIONS; what is beyond is passed over).");
        House h = new House();
        h.page("<style>" + "i,".repeat(38) + "i{}b{color:1}u{color:2}#x .k{color:3}</style><b></b><u></u>");
        House.due("what is beyond does not change it", h.it.style(3, 1), 1);
        House.due("it is passed over", h.it.style(4, 1), 63);
        h.select("u");
        h.script("add self b");
        House.due("nor does select()", h.it.style(3, 1) + " " + h.it.style(4, 1), "1 63");
    }

    static void allNodesThereAre() {
        House.says(12, "THE TREE has NODES, at most 120, numbered 0 .. 119 (one that comes gets the least number that is free):");
        House h = new House();
        h.page("<style>*{color:1}img{width:0;height:2}</style>" + "<img>".repeat(117));
        House.due("120", h.it.count(0), 120);
        House.due("its style", h.it.style(119, 1), 1);
        House.due("its place, 117 ITEMS on one LINE", h.box(119), "0 0 0 2");
        House.due("its height", h.it.count(14), 2);
        House.due("no id of that NAME", h.script("text nobody v"), 0);
        House.due("a press", h.it.press(0, 0), 0);
        House.due("all of one TAG", h.select("img"), 117);
        House.due("the last", h.it.found(116), 119);
        h.page("<style>b{float:left;width:1;height:1}</style>" + "<b></b>".repeat(117));
        House.due("117 FLOATS", h.box(119), "20 2 1 1");
        h.page("<b>i</b>".repeat(59) + "<hr>");
        House.due("59 WORDS", h.it.word(58, 0), 118);
    }

    static void stepsOfEachCall() {
        House.says(28, "At most 200 STEPS are run in one call (WRONG ones count here);");
        String spent = "a;".repeat(200);
        House h = new House();
        h.server("//home/a\n<input id=x onload='put l v' onpress='put p v' onkey='put k v'>");
        h.script(spent);
        h.visit("/a");
        House.due("a VISIT behind 200", h.it.count(15), 1);
        h.script(spent);
        h.it.press(1, 1);
        House.due("a press behind 200", h.it.count(15), 2);
        h.script(spent);
        h.it.key('a');
        House.due("a key behind 200", h.it.count(15), 3);
        h.script("wait 0 put t v;" + spent);
        h.it.tick(0);
        House.due("a tick behind 200", h.it.count(15), 4);
        h.visit("//far/");
        h.server("//far/\n<b onload='put l v'></b>");
        h.script(spent);
        h.it.history(0);
        House.due("history behind 200", h.it.count(15), 5);
        h.visit("//near/");
        h.script(spent);
        h.page("<b onload='put l v'></b>");
        House.due("a page behind 200", h.it.count(15), 6);
    }

    static void nothingComesLater() {
        House.says(26, "behind the 200th all stops, DEFAULTS and TASKS, too (but what it did itself, a VISIT).");
        StringBuilder page = new StringBuilder("<a href=/y onpress='put z v'>");
        for (int i = 0; i < 14; i++) {
            page.append("<b onpress='").append("a;".repeat(15)).append("'>");
        }
        House h = new House();
        h.page(page + "x");
        h.it.press(1, 1);
        h.script("stop");
        h.it.tick(0);
        House.due("no DEFAULT by a later call", h.address(), "//home/");
        House.due("no LISTENER either", h.it.count(15), 0);
    }

    static void noKeyComesLater() {
        House.says(27, "behind the 200th all stops, DEFAULTS and TASKS, too (but what it did itself, a VISIT).");
        StringBuilder page = new StringBuilder();
        for (int i = 0; i < 13; i++) {
            page.append("<b onkey='").append("a;".repeat(15)).append("'>");
        }
        House h = new House();
        h.page(page + "<input value=v onkey='" + "a;".repeat(15) + "'>");
        h.it.press(1, 1);
        House.due("a key of 210 STEPS", h.it.key('w'), 14);
        House.due("no byte", h.value(14), "v");
        h.script("zip");
        h.it.tick(0);
        House.due("nor by a later call", h.value(14), "v");
        House.due("FOCUS stays", h.it.count(13), 14);
        h.it.history(5);
        h.script("stop");
        h.visit("#m");
        House.due("other calls are no keys", h.value(14) + " " + h.it.count(13), "v 14");
    }

    static void whatAPressWentTo() {
        House.says(26, "Where a page went, nothing of the script, the EVENT or its DEFAULT is done any more.");
        House h = new House();
        h.server("//home/n\n<a href=/z onload='put l v' onpress='put p v'>x</a>");
        h.page("<a href=/y onpress='put q v'><b onpress='go /n;put r v'>a</b></a>");
        h.it.press(1, 1);
        House.due("there, without any DEFAULT", h.address(), "//home/n");
        House.due("load of the new page alone", h.it.count(12), 2);
        House.due("one NAME", h.it.count(15), 1);
        h.it.press(1, 1);
        House.due("then its press, and its DEFAULT", h.address() + " " + h.it.count(15), "//home/z 2");
    }

    static void pagesThatGoRound() {
        House.says(7, "At most 200 STEPS are run in one call (WRONG ones count here); behind the 200th all stops,");
        House h = new House();
        h.server("//home/l\n<b onload='go /l'></b><i onload='put a v'></i><u onload='put b v'></u>");
        House.due("a VISIT", h.visit("/l"), 1);
        House.due("200 more", h.it.count(5), 201);
        House.due("no other LISTENER", h.it.count(15), 0);
        House.due("HISTORY is full", h.it.count(7), 20);
    }

    static void aStoppedWay() {
        House.says(26, "stop: the EVENT goes no further up, and has no DEFAULT (the script goes on).");
        House h = new House();
        h.page("<div onload='put l v' onpress='put p v'><b onpress=stop>x</b></div>");
        int run = h.it.count(12);
        h.it.press(1, 1);
        House.due("no other LISTENER, whatever its sort", h.it.count(12), run + 1);
        h.page("<a href=/y onpress=stop><i><b>x</b></i></a><p>z</p>");
        h.it.press(1, 1);
        h.it.press(3, 10);
        House.due("nothing of a longer way before", h.address(), "//home/");
    }

    static void tasksOfMany() {
        House.says(11, "TASKS are done by tick(), those whose time has come, by time, then as they came (also such as come meanwhile).");
        House h = new House();
        h.page("<ul id=x></ul>");
        h.script("wait 5 add x b;wait 2 add x i;wait 9 add x u;wait 2 add x a;wait 1 add x s;wait 5 add x q");
        House.due("five by one tick", h.it.tick(8), 5);
        House.due("in that order", h.tree(), "<div><ul id=\"x\"><s></s><i></i><a></a><b></b><q></q></ul></div>");
        h.page("<b onload='wait 3 text self b'></b><i onload='wait 1 text self i'></i><u onload='wait 2 text self u'></u>");
        h.it.tick(1);
        h.it.tick(1);
        House.due("each for its self", h.it.node(1, 2) + " " + h.it.node(2, 2) + " " + h.it.node(3, 2), "0 1 1");
        h.it.tick(1);
        House.due("the last one", h.it.node(1, 2), 1);
        House.due("none is WRONG", h.it.count(11), 0);
    }

    static void sentTwice() {
        House.says(26, "for each input in it, in order, whose ATTRIBUTE name is a NAME: that, =, VALUE (a check only if CHECKED, with on), & between;");
        House h = new House();
        h.server("//home/s?q=a\n<form action=/t><input name=r value=b></form><input name=z value=z>");
        h.page("<form action=/s><input name=q></form><input name=y value=y>");
        h.it.press(1, 1);
        h.it.key('a');
        h.it.key('b');
        h.it.key(8);
        h.it.key(10);
        House.due("a byte that went is not sent, nor an input behind the form", h.address(), "//home/s?q=a");
        h.it.press(1, 1);
        h.it.key(10);
        House.due("nothing of what was sent before", h.address(), "//home/t?r=b");
        h.page("<form action=/u><input name=q value=c><b id=x></b></form>");
        h.it.press(1, 1);
        h.script("put n abcdefgh;read x n");
        h.it.key(10);
        House.due("nor of what was read", h.address(), "//home/u?q=c");
    }
}
