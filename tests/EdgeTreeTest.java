/** Promises 12 node, 13 kid, 14 name, 15 attribute, 16 serialise: no such NODE, the last one there is room for, what is cut off. */
public final class EdgeTreeTest {
    private static final int[] NO_NODES = {-1, -2, 120, 121, Integer.MAX_VALUE, Integer.MIN_VALUE};

    public static void main(String[] args) throws ReflectiveOperationException {
        House.run(EdgeTreeTest.class);
    }

    // ---- promise 12

    static void nodeWhat() {
        House.says(12, "Of a NODE of THE TREE, what 0: its TAG (17 a TEXT), 1: what it lies in (NONE of THE ROOT), 2: how many lie in it, 3: which of these in what it lies in it is, from 0 on (0 of THE ROOT), 4: ATTRIBUTES, 5: bytes of a TEXT (else 0).");
        House h = new House();
        h.page("<p a b c d>" + "t".repeat(401) + "<br><zz></zz></p>");
        int[][] due = {
            {0, -1, 1, 0, 0, 0},
            {1, 0, 3, 0, 4, 0},
            {17, 1, 0, 0, 0, 400},
            {10, 1, 0, 1, 0, 0},
            {16, 1, 0, 2, 0, 0},
        };
        for (int n = 0; n < due.length; n++) {
            for (int what = 0; what < 6; what++) {
                House.due("node(" + n + ", " + what + ")", h.it.node(n, what), due[n][what]);
            }
        }
        h.page("<br>".repeat(119));
        House.due("119 lie in THE ROOT", h.it.node(0, 2), 119);
        House.due("the last one of them", h.it.node(119, 3), 118);
    }

    static void nodeOfNone() {
        House.says(12, "NONE if there is none such (one that went, too), or for another what.");
        House h = new House();
        h.page("<b id=x>t</b><i>u</i>");
        for (int n : NO_NODES) {
            for (int what = 0; what < 6; what++) {
                House.due("node(" + n + ", " + what + ")", h.it.node(n, what), -1);
            }
        }
        House.due("one that never was", h.it.node(5, 0), -1);
        House.due("119", h.it.node(119, 0), -1);
        House.due("what 6", h.it.node(0, 6), -1);
        House.due("what -1", h.it.node(0, -1), -1);
        House.due("what far", h.it.node(0, Integer.MAX_VALUE), -1);
        h.script("del x");
        for (int what = 0; what < 6; what++) {
            House.due("one that went", h.it.node(1, what), -1);
            House.due("one that went with it", h.it.node(2, what), -1);
        }
        House.due("the others keep their numbers", h.it.node(3, 0), 9);
        House.due("and stand first now", h.it.node(3, 3), 0);
    }

    static void oneHundredAndTwenty() {
        House.says(12, "THE TREE has NODES, at most 120, numbered 0 .. 119 (one that comes gets the least number that is free):");
        House h = new House();
        h.page("<b id=x></b>" + "<br>".repeat(117) + "<hr>");
        House.due("NODES", h.it.count(0), 120);
        House.due("the last one", h.it.node(119, 0), 11);
        House.due("none behind it", h.it.node(120, 0), -1);
        h.script("add self i");
        House.due("no room for another", h.it.count(0), 120);
        h.script("del x;add self i;add self ul");
        House.due("one went, one comes", h.it.count(0), 120);
        House.due("with the number that is free", h.it.node(1, 0), 9);
        House.due("as the last one", h.it.node(1, 3), 118);
    }

    static void theLeastNumber() {
        House.says(12, "(one that comes gets the least number that is free):");
        House h = new House();
        h.page("<b></b><i id=x>t</i><u></u><span id=y></span>");
        h.script("del y;del x;add self p;add self h1;add self ul;add self li");
        int[] due = {2, 3, 5, 6};
        for (int i = 0; i < due.length; i++) {
            House.due("the number of " + i, h.it.kid(0, 2 + i), due[i]);
        }
        House.due("its TAG", h.it.node(2, 0), 1);
        h.page("<b></b>");
        House.due("a new page begins anew", h.it.kid(0, 0), 1);
    }

    static void tags() {
        House.says(12, "TAGS: 0 div, 1 p, 2 h1, 3 ul, 4 li, 5 form, 6 span, 7 a, 8 b, 9 i, 10 br, 11 hr, 12 img, 13 input, 14 button, 15 style, 16 other (any other NAME).");
        String[] tags = "div p h1 ul li form span a b i br hr img input button style other".split(" ");
        for (int i = 0; i < tags.length; i++) {
            House h = new House();
            h.page("<" + tags[i] + ">");
            House.due(tags[i], h.it.node(1, 0), i);
            House.due(tags[i] + " by its NAME", h.name(1), tags[i]);
            h.script("add self " + tags[i]);
            House.due(tags[i] + " by a script", h.it.node(2, 0), i);
        }
        for (String other : new String[] {"h2", "h", "h12", "u", "l", "d", "spa", "spans", "text", "root"}) {
            House h = new House();
            h.page("<" + other + ">");
            House.due(other, h.it.node(1, 0), 16);
        }
    }

    static void blockTags() {
        House.says(20, "BLOCK TAGS: div p h1 ul li form hr.");
        for (String tag : "div p h1 ul li form span a b i br hr img input button zz".split(" ")) {
            House h = new House();
            h.page("<" + tag + ">");
            boolean isBlock = " div p h1 ul li form hr ".contains(" " + tag + " ");
            House.due("display of " + tag, h.it.style(1, 0), isBlock ? 0 : 1);
        }
    }

    static void theMostOfANode() {
        House.says(12, "THE ROOT (0; a div), ELEMENTS with a TAG and at most 4 ATTRIBUTES (a NAME and a VALUE of at most 60 bytes), TEXTS of at most 400 bytes.");
        House h = new House();
        h.page("<b a b c d='" + "v".repeat(70) + "' e>" + "t".repeat(500) + "</b>");
        House.due("THE ROOT", h.it.node(0, 0), 0);
        House.due("ATTRIBUTES", h.it.node(1, 4), 4);
        House.due("a VALUE", h.attribute(1, "d"), 60);
        House.due("a TEXT", h.it.node(2, 5), 400);
        House.due("no fifth", h.attribute(1, "e"), -1);
    }

    static void emptyTags() {
        House.says(12, "EMPTY TAGS: br hr img input.");
        for (String tag : "div p h1 ul li form span a b i br hr img input button style zz".split(" ")) {
            House h = new House();
            h.page("<" + tag + ">x");
            boolean isEmpty = tag.equals("br") || tag.equals("hr") || tag.equals("img") || tag.equals("input");
            House.due("what lies in " + tag, h.it.node(1, 2), isEmpty ? 0 : 1);
        }
    }

    // ---- promise 13

    static void kids() {
        House.says(13, "The i-th that lies in a NODE, from 0 on; NONE if there is none such.");
        House h = new House();
        h.page("<b>x</b>y<br>");
        int[] due = {1, 3, 4};
        for (int i = 0; i < 3; i++) {
            House.due("kid(0, " + i + ")", h.it.kid(0, i), due[i]);
        }
        House.due("a fourth", h.it.kid(0, 3), -1);
        House.due("-1", h.it.kid(0, -1), -1);
        House.due("far", h.it.kid(0, Integer.MAX_VALUE), -1);
        House.due("far below", h.it.kid(0, Integer.MIN_VALUE), -1);
        House.due("of a TEXT", h.it.kid(3, 0), -1);
        House.due("of an EMPTY TAG", h.it.kid(4, 0), -1);
        House.due("of one that never was", h.it.kid(5, 0), -1);
        for (int n : NO_NODES) {
            House.due("of " + n, h.it.kid(n, 0), -1);
        }
        h.page("<br>".repeat(119));
        House.due("the 119th", h.it.kid(0, 118), 119);
        House.due("no 120th", h.it.kid(0, 119), -1);
        h.page("<b id=x><i>t</i></b>");
        h.script("del x");
        House.due("of one that went", h.it.kid(1, 0), -1);
    }

    // ---- promise 14

    static void names() {
        House.says(14, "The NAME of an ELEMENT's TAG, or the bytes of a TEXT, are written to THE OUT: how many;");
        House h = new House();
        h.page("<b>x</b><ABCDEFGHI>" + "t".repeat(401));
        House.due("the shortest NAME", h.name(1), "b");
        House.due("a NAME of more than 8", h.name(3), "abcdefgh");
        House.due("THE ROOT", h.name(0), "div");
        House.due("the shortest TEXT", h.name(2), "x");
        House.due("the longest TEXT", h.it.name(4), 400);
        House.due("its last byte", h.it.out(399), 't');
        House.due("no more", h.it.out(400), -1);
    }

    static void namesOfNone() {
        House.says(14, "NONE if there is no such NODE.");
        House h = new House();
        h.page("<b id=x>t</b>");
        for (int n : NO_NODES) {
            House.due("name(" + n + ")", h.it.name(n), -1);
        }
        House.due("one that never was", h.it.name(3), -1);
        h.script("del x");
        House.due("one that went", h.it.name(1), -1);
        House.due("one that went with it", h.it.name(2), -1);
    }

    // ---- promise 15

    static void attributes() {
        House.says(15, "The VALUE of an ELEMENT's ATTRIBUTE whose NAME is the text (a NAME), written to THE OUT: how many bytes;");
        House h = new House();
        h.page("<b a b='' abcdefgh=x ABCDEFG='" + "v".repeat(61) + "'>");
        House.due("without a VALUE", h.attribute(1, "a"), 0);
        House.due("an empty VALUE", h.attribute(1, "b"), 0);
        House.due("a NAME of 8", h.attribute(1, "abcdefgh"), 1);
        House.due("the longest VALUE", h.attribute(1, "abcdefg"), 60);
    }

    static void attributesOfNone() {
        House.says(15, "NONE if there is no such NODE or ATTRIBUTE.");
        House h = new House();
        h.page("<b id=x>t</b>");
        for (int n : NO_NODES) {
            House.due("of " + n, h.attribute(n, "id"), -1);
        }
        House.due("of a TEXT", h.attribute(2, "id"), -1);
        House.due("of THE ROOT", h.attribute(0, "id"), -1);
        House.due("another ATTRIBUTE", h.attribute(1, "i"), -1);
        House.due("a longer one", h.attribute(1, "idx"), -1);
        h.script("del x");
        House.due("of one that went", h.attribute(1, "id"), -1);
    }

    static void attributesThatAreNoNames() {
        House.says(15, "WRONG at the first byte with which it can't go on to be a NAME.");
        House h = new House();
        h.page("<b =x=1 -y=2>");
        House.due("nothing", h.attribute(1, ""), -1000);
        House.due("a byte that begins no NAME", h.attribute(1, "=x"), -1000);
        House.due("another", h.attribute(1, "-y"), -1000);
        House.due("a byte within", h.attribute(1, "ab-c"), -1002);
        House.due("a ninth byte", h.attribute(1, "abcdefghi"), -1008);
        House.due("a ninth byte that could be in none", h.attribute(1, "abcdefgh "), -1008);
        House.due("byte 10 behind", h.attribute(1, "a\n"), -1001);
        House.says(15, "A text that is no NAME is WRONG ahead of a NODE that there is not.");
        House.due("of no NODE", h.attribute(99, "9"), -1000);
        House.due("of no NODE, below", h.attribute(-1, "a-"), -1001);
    }

    // ---- promise 16

    static void serialised() {
        House.says(16, "SERIALISED is a NODE: a TEXT with &lt; &gt; &amp; &quot; for < > & \" (in a style as it is); an ELEMENT as <, its NAME, for each ATTRIBUTE a blank, its NAME, =\", the VALUE with the same four, \", then >, what lies in it, </, its NAME, > (the last three not of EMPTY TAGS).");
        House h = new House();
        h.page("<b a='<>&\"' b>&lt;&gt;&amp;&quot;'</b><style><>&\"</style><br><hr><img><input value='&'>");
        String[] due = {
            "", "<b a=\"&lt;&gt;&amp;&quot;\" b=\"\">&lt;&gt;&amp;&quot;'</b>", "&lt;&gt;&amp;&quot;'", "<style><>&\"</style>", "<>&\"", "<br>", "<hr>", "<img>",
            "<input value=\"&amp;\">",
        };
        for (int n = 1; n < due.length; n++) {
            House.due("serialise(" + n + ")", h.out(h.it.serialise(n)), due[n]);
        }
        House.due("of an empty page", new House().tree(), "<div></div>");
    }

    /** A page that is so many bytes when SERIALISED, from 7995 on. */
    private static String pageOf(int bytes) {
        return ("<b>" + "\"".repeat(400) + "</b>").repeat(3) + "<b>" + "\"".repeat(126) + "x".repeat(bytes - 7995) + "</b>";
    }

    static void eightThousand() {
        House.says(16, "SERIALISED, written to THE OUT: how many bytes, at most 8000 (what is beyond is cut off);");
        House h = new House();
        h.page(pageOf(7999));
        House.due("7999", h.it.serialise(0), 7999);
        House.due("its last byte", h.it.out(7998), '>');
        House.due("no more", h.it.out(7999), -1);
        h.page(pageOf(8000));
        House.due("8000", h.it.serialise(0), 8000);
        House.due("its last byte of 8000", h.it.out(7999), '>');
        h.page(pageOf(8001));
        House.due("8001", h.it.serialise(0), 8000);
        House.due("the last byte is cut off", h.it.out(7999), 'v');
        House.due("no byte behind it", h.it.out(8000), -1);
        h = new House();
        h.page(("<b>" + "\"".repeat(400) + "</b>").repeat(4));
        House.due("far beyond", h.it.serialise(0), 8000);
        House.due("cut within an ENTITY: 771 of 2400 bytes", h.it.out(7999), 'u');
        h = new House();
        h.page(("<b>" + "\"".repeat(400) + "</b>").repeat(3) + "<b>" + "\"".repeat(61) + "</b><style>" + "s".repeat(400) + "</style>");
        House.due("the TEXT of a style beyond", h.it.serialise(0), 8000);
        House.due("its last byte there", h.it.out(7999), 's');
        House.due("none behind that", h.it.out(8000), -1);
    }

    static void serialisedOfNone() {
        House.says(16, "NONE if there is no such NODE.");
        House h = new House();
        h.page("<b id=x>t</b>");
        for (int n : NO_NODES) {
            House.due("serialise(" + n + ")", h.it.serialise(n), -1);
        }
        House.due("one that never was", h.it.serialise(3), -1);
        h.script("del x");
        House.due("one that went", h.it.serialise(1), -1);
    }
}
