/** Promise 17 fault, and what Part IV says of PAGE TEXTS: signs, FAULTS and THE TREE at their edges. */
public final class EdgePageTest {
    public static void main(String[] args) throws ReflectiveOperationException {
        House.run(EdgePageTest.class);
    }

    /** What lies in THE ROOT behind reading a text, and its FAULTS. */
    private static void reads(String text, String tree, String faults) {
        House h = new House();
        h.page(text);
        House.due("THE TREE of " + text, h.tree(), "<div>" + tree + "</div>");
        House.due("FAULTS of " + text, h.faults(), faults);
    }

    private static void faults(String text, int nodes, String faults) {
        House h = new House();
        House.due("NODES of " + text, h.page(text), nodes);
        House.due("FAULTS of " + text, h.faults(), faults);
    }

    // ---- signs

    static void places() {
        House.says(17, "A PAGE TEXT (a BODY, or told) is read from the left; PLACES are counted from 0.");
        reads("</b>", "", "3@0");
        reads("x</b>", "x", "3@1");
        House h = new House();
        h.server("//home/a open\n</b>x</i>");
        h.visit("a");
        House.due("of a BODY from its own begin", h.faults(), "3@0 3@5");
        h.page("x".repeat(1996) + "</b>");
        House.due("the last place", h.it.fault(1, 1), 1996);
    }

    static void entities() {
        House.says(8, "SIGNS: ENTITY: &lt; &gt; &amp; &quot; are < > & \"; & not followed so is itself.");
        reads("&lt;&gt;&amp;&quot;", "&lt;&gt;&amp;&quot;", "");
        House h = new House();
        h.page("&lt;b>&gt;&amp;&quot;");
        House.due("as bytes", h.name(1), "<b>>&\"");
        h.page("&&lt&LT;&l;&ltx;&&amp;amp;& lt;&quot&#60;&");
        House.due("as they are", h.name(1), "&&lt&LT;&l;&ltx;&&amp;& lt;&quot&#60;&");
        h.page("&l<!-- -->t;");
        House.due("not over two runs", h.name(1), "&lt;");
    }

    static void tagsBegin() {
        House.says(8, "A TAG begins with <, perhaps /, a letter;");
        for (String begin : new String[] {"<@", "<[", "<`", "<{", "<1", "< b", "<>", "<<", "</", "</@", "</[", "</`", "</{", "</1", "</ b", "<//b", "<!b", "<!-b"}) {
            House h = new House();
            h.page("x" + begin + ">y");
            House.due(begin + " is text", h.name(1), "x" + begin + ">y");
            House.due("no FAULT of it", h.it.count(1), 0);
        }
        reads("<a>x</a><z>y</z>", "<a>x</a><z>y</z>", "");
        reads("<A>x</A><Z>y</Z>", "<a>x</a><z>y</z>", "");
        reads("x<", "x&lt;", "");
        reads("x</", "x&lt;/", "");
        reads("<<b>y</b>", "&lt;<b>y</b>", "");
    }

    static void tagNames() {
        House.says(14, "its NAME is all letters and digits that stand there, capitals as small ones, of more than 8 the first 8.");
        reads("<H1>x</h1>", "<h1>x</h1>", "");
        reads("<abcdefgh>x</abcdefgh>", "<abcdefgh>x</abcdefgh>", "");
        reads("<abcdefghi>x</ABCDEFGHJ>", "<abcdefgh>x</abcdefgh>", "");
        reads("<a1b2>x</a1b2>", "<a1b2>x</a1b2>", "");
        reads("<b-c>x</b>", "<b -c=\"\">x</b>", "");
        reads("<b_>x</b>", "<b _=\"\">x</b>", "");
        House h = new House();
        h.page("<divs></divs><di></di><buttonxyz></buttonxyz>");
        House.due("longer than div", h.it.node(1, 0), 16);
        House.due("shorter than div", h.it.node(2, 0), 16);
        House.due("cut, it is another", h.it.node(3, 0), 16);
    }

    static void endOfATag() {
        House.says(8, "Behind it, up to a > that is in no VALUE, bytes 10, 32 and / part ATTRIBUTES (those of end TAGS are read, and gone):");
        reads("<b a='>' b=\">\">x</b>", "<b a=\"&gt;\" b=\"&gt;\">x</b>", "");
        reads("<b a=x>y>z</b>", "<b a=\"x\">y&gt;z</b>", "");
        reads("<b a\nb/c d/>x</b>", "<b a=\"\" b=\"\" c=\"\" d=\"\">x</b>", "");
        reads("<b \n// a >x</b>", "<b a=\"\">x</b>", "");
        reads("<br/>x", "<br>x", "");
        reads("<b/>x</b>", "<b>x</b>", "");
        reads("<b>x</b a='>' a a b c d e>y", "<b>x</b>y", "");
        reads("<b>x</b/>y", "<b>x</b>y", "");
    }

    static void attributeNames() {
        House.says(15, "a NAME being its first byte, whatever it is, and all up to =, 10, 32, / or > (capitals as small ones; of more than 8 the first 8);");
        reads("<b =>x</b>", "<b ==\"\">x</b>", "");
        reads("<b ==y>x</b>", "<b ==\"y\">x</b>", "");
        reads("<b \">x</b>", "<b \"=\"\">x</b>", "");
        reads("<b '='>'>x</b>", "<b '=\"&gt;\">x</b>", "");
        reads("<b <>x</b>", "<b <=\"\">x</b>", "");
        reads("<b A9-_.X=y>x</b>", "<b a9-_.x=\"y\">x</b>", "");
        reads("<b @AZ[=y>x</b>", "<b @az[=\"y\">x</b>", "");
        reads("<b abcdefgh=1>x</b>", "<b abcdefgh=\"1\">x</b>", "");
        reads("<b ABCDEFGHI=1>x</b>", "<b abcdefgh=\"1\">x</b>", "");
        reads("<b a/=y>x</b>", "<b a=\"\" ==\"\">x</b>".replace("==\"\"", "=y=\"\""), "");
    }

    static void attributeValues() {
        House.says(15, "then perhaps = (right behind) and a VALUE: in \" or ' up to the next one like it, else all up to 10, 32 or >;");
        reads("<b a=\"x'y\" b='x\"y'>z</b>", "<b a=\"x'y\" b=\"x&quot;y\">z</b>", "");
        reads("<b a=\"\" b=''>z</b>", "<b a=\"\" b=\"\">z</b>", "");
        reads("<b a=>z</b>", "<b a=\"\">z</b>", "");
        reads("<b a= b>z</b>", "<b a=\"\" b=\"\">z</b>", "");
        reads("<b a =x>z</b>", "<b a=\"\" =x=\"\">z</b>", "");
        reads("<b a=x/y\nb=x'y c=\"x y\nz\">z</b>", "<b a=\"x/y\" b=\"x'y\" c=\"x y\nz\">z</b>", "");
        reads("<b a='x'b='y'>z</b>", "<b a=\"x\" b=\"y\">z</b>", "");
        reads("<b a=x=y>z</b>", "<b a=\"x=y\">z</b>", "");
    }

    static void valuesOfSixty() {
        House.says(15, "of more than 60 bytes the first 60, ENTITIES read ahead of that.");
        House h = new House();
        h.page("<b a='" + "v".repeat(60) + "' b='" + "v".repeat(60) + "w' c=" + "u".repeat(61) + " d='" + "&lt;".repeat(20) + "'>");
        House.due("60", h.attribute(1, "a"), 60);
        House.due("61", h.out(h.attribute(1, "b")), "v".repeat(60));
        House.due("61 without quotes", h.attribute(1, "c"), 60);
        House.due("20 of 80", h.out(h.attribute(1, "d")), "<".repeat(20));
        h.page("<b a='" + "v".repeat(59) + "&lt;' b='" + "v".repeat(60) + "&lt;' c='" + "v".repeat(59) + "&lt' d='" + "v".repeat(58) + "&ltx'>");
        House.due("the 60th an ENTITY", h.out(h.attribute(1, "a")), "v".repeat(59) + "<");
        House.due("the 61st an ENTITY", h.attribute(1, "b"), 60);
        House.due("none, cut", h.out(h.attribute(1, "c")), "v".repeat(59) + "&");
        House.due("none, cut behind l", h.out(h.attribute(1, "d")), "v".repeat(58) + "&l");
    }

    static void comments() {
        House.says(8, "COMMENTS: <!-- up to the next -->.");
        reads("a<!---->b", "ab", "");
        reads("a<!-- -- > -->b", "ab", "");
        reads("a<!-- <b> &lt; --> -->b", "a --&gt;b", "");
        reads("a<!-- <!-- -->b", "ab", "");
        reads("<!--x-->", "", "");
        reads("a<!--->b", "a", "1@1");
        reads("a<!-x-->b", "a&lt;!-x--&gt;b", "");
    }

    static void allElseIsText() {
        House.says(8, "All else is text (a < that begins neither, too).");
        reads("a > b \" ' / = ; -- --> !", "a &gt; b &quot; ' / = ; -- --&gt; !", "");
        reads("<", "&lt;", "");
        reads("<<<", "&lt;&lt;&lt;", "");
        reads("a<1<b>x</b>", "a&lt;1<b>x</b>", "");
        reads("a<!<!---->b", "a&lt;!b", "");
    }

    static void textInStyle() {
        House.says(8, "Text in style, up to the next </style (in small letters), is a run without ENTITIES.");
        reads("<style>&lt;<b><!-- </b>&amp;</style>x", "<style>&lt;<b><!-- </b>&amp;</style>x", "");
        reads("<style>a</STYLE>b</Style>c</style>d", "<style>a</STYLE>b</Style>c</style>d", "");
        reads("<style>a</styl>b</style>c", "<style>a</styl>b</style>c", "");
        reads("<style></style>x", "<style></style>x", "");
        reads("<STYLE>a<b></style\n>x", "<style>a<b></style>x", "");
        reads("<style>a<", "<style>a<</style>", "4@0");
    }

    // ---- FAULTS

    static void faultsInOrder() {
        House.says(17, "FAULTS are told in order, each with its PLACE (that of the <, or as told),");
        reads("</b><i a a>x</u><p><a><a></a></i>", "<i a=\"\">x<p><a></a><a></a></p></i>", "3@0 2@9 3@12 5@22");
        reads("<i><b a a></i><u", "<i><b a=\"\"></b></i>", "2@8 4@3 1@14");
    }

    static void faultOne() {
        House.says(17, "1 a TAG or COMMENT that does not end (all from its < on is gone, and no other FAULT of it is told);");
        reads("x<b", "x", "1@1");
        reads("x</b", "x", "1@1");
        reads("x<!--", "x", "1@1");
        reads("x<!-- --", "x", "1@1");
        reads("x<b a='>y</b>", "x", "1@1");
        reads("x<b a=\"'>y</b>", "x", "1@1");
        reads("x<b a", "x", "1@1");
        reads("x<b a=", "x", "1@1");
        reads("x<b a='b'", "x", "1@1");
        reads("x<b a='b' ", "x", "1@1");
        reads("x<b a a a b c d e", "x", "1@1");
        reads("x</i a='b", "x", "1@1");
        reads("<p>x<p", "<p>x</p>", "1@4");
        reads("<a>x<a", "<a>x</a>", "1@4 4@0");
        reads("x<b>y<i", "x<b>y</b>", "1@5 4@1");
    }

    static void faultTwo() {
        House.says(17, "2 an ATTRIBUTE whose NAME its start TAG has already, or a fifth one (at its first byte; it is gone);");
        reads("<b a=1 a=2>x</b>", "<b a=\"1\">x</b>", "2@7");
        reads("<b a A a>x</b>", "<b a=\"\">x</b>", "2@5 2@7");
        reads("<b abcdefgh=1 abcdefghi=2>x</b>", "<b abcdefgh=\"1\">x</b>", "2@14");
        reads("<b a b c d>x</b>", "<b a=\"\" b=\"\" c=\"\" d=\"\">x</b>", "");
        reads("<b a b c d e=5 f>x</b>", "<b a=\"\" b=\"\" c=\"\" d=\"\">x</b>", "2@11 2@15");
        reads("<b a a b c d e>x</b>", "<b a=\"\" b=\"\" c=\"\" d=\"\">x</b>", "2@5 2@13");
        reads("<b a b c d a>x</b>", "<b a=\"\" b=\"\" c=\"\" d=\"\">x</b>", "2@11");
        reads("<b>x</b a a a b c d e>", "<b>x</b>", "");
    }

    static void faultThree() {
        House.says(17, "3 an end TAG of nothing that is open, or of an EMPTY TAG (it is gone);");
        reads("</b>", "", "3@0");
        reads("<b>x</b></b>", "<b>x</b>", "3@8");
        reads("<br></br><hr></hr><img></img><input></input>", "<br><hr><img><input>", "3@4 3@13 3@23 3@36");
        reads("x</zz>y", "xy", "3@1");
        reads("</p></li>", "", "3@0 3@4");
    }

    static void rootIsNeverClosed() {
        House.says(17, "with all in it; never THE ROOT.");
        reads("x</div>y", "xy", "3@1");
        reads("<b>x</div>y</b>", "<b>xy</b>", "3@4");
        reads("<div>x</div></div>", "<div>x</div>", "3@12");
    }

    static void faultFour() {
        House.says(17, "4 an ELEMENT, but p and li, that is closed by anything else than its own end TAG (at the < of its start TAG; told when it is closed, the innermost first;");
        reads("<b>x", "<b>x</b>", "4@0");
        reads("<p>x", "<p>x</p>", "");
        reads("<li>x", "<li>x</li>", "");
        reads("<div>x<b>y<i>z</div>", "<div>x<b>y<i>z</i></b></div>", "4@10 4@6");
        reads("<div><p>x<li>y</div>", "<div><p>x</p><li>y</li></div>", "");
        reads("<p>x<b>y<p>z", "<p>x<b>y</b></p><p>z</p>", "4@4");
        reads("<b></b><i>", "<b></b><i></i>", "4@7");
        reads("<b>x</b", "<b>x</b>", "1@4 4@0");
    }

    static void faultFive() {
        House.says(17, "not an a by an a: that is 5, at the new one, behind the 4s of what lies in it);");
        reads("<a>x<a>y</a>", "<a>x</a><a>y</a>", "5@4");
        reads("<a>x<b>y<i>z<a>w</a>", "<a>x<b>y<i>z</i></b></a><a>w</a>", "4@8 4@4 5@12");
        reads("<a>x</a><a>y</a>", "<a>x</a><a>y</a>", "");
        reads("<a>x", "<a>x</a>", "4@0");
        reads("<div><a>x</div>", "<div><a>x</a></div>", "4@5");
        reads("<a><p>x<a>y</a>", "<a><p>x</p></a><a>y</a>", "5@7");
        reads("<a b b><i><a c c></a>", "<a b=\"\"><i></i></a><a c=\"\"></a>", "2@5 2@15 4@7 5@10");
    }

    static void attributesAheadOfOthers() {
        House.says(17, "those of a TAG's ATTRIBUTES ahead of its others:");
        reads("<p><b><p a a>", "<p><b></b></p><p a=\"\"></p>", "2@11 4@3");
        faults("<br>".repeat(119) + "<b a a>", 120, "2@481 6@476");
    }

    static void faultSixOfNodes() {
        House.says(17, "6 no room for a NODE (120),");
        faults("<br>".repeat(119), 120, "");
        faults("<br>".repeat(120), 120, "6@476");
        faults("<br>".repeat(118) + "t", 120, "");
        faults("<br>".repeat(119) + "t", 120, "6@476");
        faults("<br>".repeat(119) + " \n", 120, "");
        faults("<br>".repeat(118) + "t<br>u", 120, "6@473");
        faults("<br>".repeat(119) + "<b>", 120, "6@476");
    }

    static void faultSixOfDepth() {
        House.says(17, "or it would lie more than 20 deep (THE ROOT 0): it is gone");
        faults("<b>".repeat(20) + "</b>".repeat(20), 21, "");
        faults("<b>".repeat(21) + "</b>".repeat(21), 21, "6@60 3@143");
        faults("<b>".repeat(19) + "t" + "</b>".repeat(19), 21, "");
        faults("<b>".repeat(20) + "t" + "</b>".repeat(20), 21, "6@60");
        faults("<b>".repeat(20) + "<br>" + "</b>".repeat(20), 21, "6@60");
        faults("<b>".repeat(20) + " " + "</b>".repeat(20), 21, "");
        faults("<b>".repeat(19) + "<br>" + "</b>".repeat(19), 21, "");
    }

    static void faultSixOfText() {
        House.says(17, "(of text at the run's first byte;");
        faults("<br>".repeat(119) + " \n t u<!-- -->v", 120, "6@476 6@490");
        faults("<b>".repeat(20) + "&lt;</b>t" + "</b>".repeat(19), 22, "6@60");
    }

    static void whatItWouldHold() {
        House.says(17, "what an ELEMENT would hold, of a style, too, is read on as of what is open, its end TAG as any);");
        String full = "<br>".repeat(117) + "<p>t";
        House h = new House();
        h.page(full + "<style>&lt;u</style>v");
        House.due("the TEXT that is there, with ENTITIES", h.name(119), "t<uv");
        House.due("its end TAG closes nothing", h.faults(), "6@472 3@484");
        h.page("<br>".repeat(116) + "<i><b>t<b>u</b>v</b>w</i>");
        House.due("its end TAG closes what is open", h.name(119), "tu");
        House.due("so the next one finds nothing", h.faults(), "6@471 6@479 3@480 6@484");
    }

    static void closingComesAheadOfRoom() {
        House.says(17, "then its NODE comes into the innermost that is open, and is open, if it is no EMPTY TAG");
        faults("<br>".repeat(117) + "<p><b><div>", 120, "4@471 6@474");
        faults("<br>".repeat(118) + "<a><a>x", 120, "5@475 6@475 6@478");
        reads("<p><img>x<br>y<input>z</p>", "<p><img>x<br>y<input>z</p>", "");
    }

    static void faultSeven() {
        House.says(17, "7 a TEXT of more than 400 bytes (at what would be the 401st, once for a TEXT; the rest is gone).");
        House h = new House();
        h.page("t".repeat(400));
        House.due("400", h.it.node(1, 5), 400);
        House.due("no FAULT", h.faults(), "");
        h.page("t".repeat(401));
        House.due("401", h.it.node(1, 5), 400);
        House.due("at the 401st", h.faults(), "7@400");
        h.page("t".repeat(399) + "&lt;u");
        House.due("the 400th an ENTITY", h.faults(), "7@403");
        h.page("t".repeat(400) + "&lt;u");
        House.due("the 401st an ENTITY", h.faults(), "7@400");
        h.page("t".repeat(401) + "<!-- -->u</b>v<i></i>" + "w".repeat(402));
        House.due("once for a TEXT, then for another", h.faults(), "7@400 3@410 7@822");
        h.page("t".repeat(400) + "<!-- --> ");
        House.due("a blank, too", h.faults(), "7@408");
        h.page("t".repeat(300) + "<!-- -->" + "u".repeat(101));
        House.due("of two runs", h.faults(), "7@408");
        h.page("<style>" + "t".repeat(401) + "</style>");
        House.due("in a style", h.faults(), "7@407");
    }

    static void endOfThePage() {
        House.says(17, "At a page's end each ELEMENT that is open, but p and li, is a FAULT 4, the innermost first, behind a FAULT 1 there.");
        reads("<div><ul><li><p><b>x<i", "<div><ul><li><p><b>x</b></p></li></ul></div>", "1@20 4@16 4@5 4@0");
        reads("<div><form>x<!--", "<div><form>x</form></div>", "1@12 4@5 4@0");
        reads("<style>x", "<style>x</style>", "4@0");
        reads("<br><img><hr><input>", "<br><img><hr><input>", "");
    }

    static void fortyAreTold() {
        House.says(17, "Of the i-th FAULT of the page as it was read latest, from 0 on (40 at most are told),");
        House h = new House();
        h.page("</b>".repeat(40));
        House.due("the first", h.it.fault(0, 1), 0);
        House.due("the 40th of 40", h.it.fault(39, 1), 156);
        House.due("no more", h.it.fault(40, 0), -1);
        h.page("</b>".repeat(41));
        House.due("the 40th of 41", h.it.fault(39, 1), 156);
        House.due("the 41st is not told", h.it.fault(40, 1), -1);
        House.due("but counted", h.it.count(1), 41);
        h.page("</b>".repeat(39));
        House.due("the 39th of 39", h.it.fault(38, 1), 152);
        House.due("none of the page before", h.it.fault(39, 1), -1);
    }

    static void faultOfNone() {
        House.says(17, "what 0: which, 1: its PLACE; NONE.");
        House h = new House();
        h.page("x</b>");
        House.due("which", h.it.fault(0, 0), 3);
        House.due("PLACE", h.it.fault(0, 1), 1);
        House.due("what 2", h.it.fault(0, 2), -1);
        House.due("what -1", h.it.fault(0, -1), -1);
        House.due("i 1", h.it.fault(1, 0), -1);
        House.due("i -1", h.it.fault(-1, 0), -1);
        House.due("far", h.it.fault(Integer.MAX_VALUE, 1), -1);
        House.due("far below", h.it.fault(Integer.MIN_VALUE, 1), -1);
        h.page("\u0001");
        House.due("a WRONG text is not read", h.it.fault(0, 0), 3);
        h.script("del x;add self b");
        House.due("nor is a script", h.it.count(1), 1);
    }

    // ---- THE TREE

    static void rootIsOpen() {
        House.says(8, "THE TREE is built: THE ROOT is open.");
        reads("a", "a", "");
        reads("<p>a</p>b</p>c", "<p>a</p>bc", "3@9");
        faults("", 1, "");
    }

    static void aClosesA() {
        House.says(8, "a closes an a that is open;");
        reads("<a>x<a>y<a>z</a>", "<a>x</a><a>y</a><a>z</a>", "5@4 5@8");
        reads("<a>x<div><p><a>y</a>", "<a>x<div><p></p></div></a><a>y</a>", "4@4 5@12");
        reads("<a></a><b><a></a></b>", "<a></a><b><a></a></b>", "");
    }

    static void blocksCloseP() {
        House.says(8, "A start TAG: a BLOCK TAG closes a p that is open (with all in it);");
        for (String tag : "div p h1 ul li form".split(" ")) {
            reads("<p>x<" + tag + ">y</" + tag + ">", "<p>x</p><" + tag + ">y</" + tag + ">", "");
        }
        reads("<p>x<hr>y", "<p>x</p><hr>y", "");
        for (String tag : "span b i button zz".split(" ")) {
            reads("<p>x<" + tag + ">y</" + tag + "></p>", "<p>x<" + tag + ">y</" + tag + "></p>", "");
        }
        reads("<p>x<br>y<img>z<input>w", "<p>x<br>y<img>z<input>w</p>", "");
        reads("<p><span><b>x<div>y</div>", "<p><span><b>x</b></span></p><div>y</div>", "4@9 4@3");
    }

    static void liClosesLi() {
        House.says(8, "li closes the li that is open, if no ul that is open was opened behind that;");
        reads("<li>x<li>y", "<li>x</li><li>y</li>", "");
        reads("<ul><li>x<li>y</ul>", "<ul><li>x</li><li>y</li></ul>", "");
        reads("<li>x<ul><li>y</ul>", "<li>x<ul><li>y</li></ul></li>", "");
        reads("<li>x<ul></ul><li>y", "<li>x<ul></ul></li><li>y</li>", "");
        reads("<li>x<div><b>y<li>z", "<li>x<div><b>y</b></div></li><li>z</li>", "4@10 4@5");
        reads("<ul><li>x<ul><li>y<li>z</ul><li>w</ul>", "<ul><li>x<ul><li>y</li><li>z</li></ul></li><li>w</li></ul>", "");
    }

    static void endTagsCloseTheInnermost() {
        House.says(8, "An end TAG closes the innermost open one of its NAME (of other: that has the same NAME), with all in it;");
        reads("<b><b>x</b>y</b>", "<b><b>x</b>y</b>", "");
        reads("<xx><yy>x</xx>y", "<xx><yy>x</yy></xx>y", "4@4");
        reads("<xx>x</yy>y</xx>", "<xx>xy</xx>", "3@5");
        reads("<b><i><u>x</b>y</i>", "<b><i><u>x</u></i></b>y", "4@6 4@3 3@15");
    }

    static void styleIsClosed() {
        House.says(8, "(a style is closed by its </style ..> , or the page's end).");
        reads("<style>a</style x='>' y>b", "<style>a</style>b", "");
        reads("<style>a<p><div></b>", "<style>a<p><div></b></style>", "4@0");
        reads("<style>a</style", "<style>a</style>", "1@8 4@0");
    }

    static void runsOfText() {
        House.says(8, "A run of text (up to the next TAG or COMMENT, or the end) comes into the innermost that is open, to the TEXT that is last there, if one is, else as a new one;");
        faults("a<!-- -->b</i>c", 2, "3@10");
        faults("a<b></b>c", 4, "");
        faults("<b>a</b>b<i>c", 6, "4@9");
    }

    static void blankRuns() {
        House.says(8, "text of bytes 10 and 32 alone does so only behind a TEXT (else it is gone).");
        reads(" ", "", "");
        reads("\n<b> \n </b> ", "<b></b>", "");
        reads("a<!-- --> <!-- -->\n", "a \n", "");
        reads("a<b></b> ", "a<b></b>", "");
        reads("a<br> b", "a<br> b", "");
        reads("<b>a</b> <i>b</i>", "<b>a</b><i>b</i>", "");
        reads(" &lt; ", " &lt; ", "");
    }
}
