/** What a sentence does not mean: things that look like those that it names, or stand beside them. */
public final class EdgeOthersTest {
    private static final String DEFAULT = "Then its DEFAULT, if none stopped, by the first one on that way, that is there still, that is: an a with href: a VISIT of it; a check: CHECKED the other way round; another input: it has the FOCUS; a button in a form: that is SENT.";

    public static void main(String[] args) throws ReflectiveOperationException {
        House.run(EdgeOthersTest.class);
    }

    private static String text(String page) {
        return House.paged(page).name(1);
    }

    // ---- texts and addresses

    static void dotsInSegments() {
        House.says(5, "Then SEGMENTS, from the first to the last: . goes, .. goes with the one ahead of it, if there is one;");
        House h = new House();
        for (String segment : new String[] {"a.", ".a", "-.", ".-", "...", "..a", "a..", "_.", ".0"}) {
            House.due(segment + " stays", h.out(h.resolve("/x/" + segment + "/y")), "//home/x/" + segment + "/y");
            House.due(segment + " stays as the last one", h.out(h.resolve("/x/" + segment)), "//home/x/" + segment);
        }
    }

    static void dotsAheadOfATail() {
        House.says(5, "if the last one went so, an empty one comes in its place;");
        House h = new House();
        for (String tail : new String[] {"?", "?q", "#m", "?.#m", "?..", "?a=b.#m"}) {
            House.due(".. ahead of " + tail, h.out(h.resolve("/a/b/.." + tail)), "//home/a/" + tail);
            House.due(". ahead of " + tail, h.out(h.resolve("c/." + tail)), "//home/c/" + tail);
            House.due("with a SITE, ahead of " + tail, h.out(h.resolve("//s/.." + tail)), "//s/" + tail);
            House.due("no PATH ahead of " + tail, h.out(h.resolve("//s" + tail)), "//s/" + tail);
        }
    }

    static void signsInFields() {
        House.says(6, "FIELDS, each at most once: age= NUMBER; cookie= NAME : NAME; to= REFERENCE (against the ADDRESS); open.");
        String[] none = {"cookie:a:b", "cookie a:b", "cookies=a:b", "cookie=a=b", "cookie=a:b:c", "opex", "ope", "opens", "open=", "age:1", "age1", "ages=1", "to:a", "to", "tos=a"};
        for (String field : none) {
            House.due(field, new House().server("//a/ " + field + "\n"), -1005);
            House.due(field + " behind one", new House().server("//a/ open " + field + "\n"), -1010);
        }
    }

    static void entitiesWithoutTheirEnd() {
        House.says(14, "& not followed so is itself.");
        for (String sign : new String[] {"lt", "gt", "amp", "quot"}) {
            House.due("&" + sign + "x", text("&" + sign + "x;y"), "&" + sign + "x;y");
            House.due("&" + sign + " at the end", text("x&" + sign), "x&" + sign);
            House.due("&" + sign + " with a capital", text("&" + sign.toUpperCase() + ";"), "&" + sign.toUpperCase() + ";");
            House.due("&x" + sign, text("&x" + sign + ";"), "&x" + sign + ";");
        }
        House.due("read once", text("&amp;lt;"), "&lt;");
    }

    static void whatHistoryGets() {
        House.says(9, "its ADDRESS the last one FOLLOWED (with the first one's MARK); FOCUS none, all TASKS go; HISTORY (20 at most, the first goes) loses what is ahead and gets it;");
        House h = new House();
        h.server("//home/a to=b\n");
        h.server("//home/b\nfollowed");
        h.visit("/a#m");
        House.due("there", h.address(), "//home/b#m");
        h.server("//home/a\nother");
        House.due("again", h.it.history(0), 1);
        House.due("the ADDRESS that was FOLLOWED", h.address() + " " + h.name(1), "//home/b#m followed");
    }

    // ---- the tree

    static void bytesOfATextAlone() {
        House.says(12, "5: bytes of a TEXT (else 0).");
        House h = House.paged("<input value=abc><b value=d>e</b>");
        House.due("an input", h.it.node(1, 5), 0);
        House.due("a b", h.it.node(2, 5), 0);
        House.due("a TEXT", h.it.node(3, 5), 1);
        h.script("class self k;text self v");
        House.due("THE ROOT", h.it.node(0, 5), 0);
    }

    static void inputsAlone() {
        House.says(30, "Whether an input is CHECKED: 1 or 0; NONE if it is no input.");
        House h = House.paged("<button type=check checked value=v>i</button>");
        House.due("a button", h.it.checked(1), -1);
        House.due("its VALUE", h.it.value(1), -1);
        h.it.press(1, 1);
        House.due("nor behind a press", h.it.checked(1) + " " + h.it.count(13), "-1 -1");
        House.says(24, "a checked one (below) has all of its INNER in color, and no VALUE;");
        h = House.shown(20, "button{color:2;background:1}", "<button type=check checked>b</button>");
        House plain = House.shown(20, "button{color:2;background:1}", "<button>b</button>");
        int on = 0;
        for (int x = 0; x < 8; x++) {
            for (int y = 0; y < 11; y++) {
                House.due("point " + x + ", " + y, h.it.point(x, y), plain.it.point(x, y));
                on += h.it.point(x, y) == 1 ? 1 : 0;
            }
        }
        House.due("some of its INNER is BACKGROUND", on > 0 ? 1 : 0, 1);
    }

    // ---- layout

    static void stylesThatAreShown() {
        House.says(22, "else display block of BLOCK TAGS, button: inline, style: none, all others inline;");
        House h = House.paged("<style>style{display:block;height:9}</style>a");
        House.due("as any BLOCK", h.box(1), "0 0 48 9");
        House.due("its TEXT", h.it.word(0, 0) + " " + h.it.word(0, 2), "2 29");
        House.due("what is behind it", h.places().split(" ")[1], "0,9");
    }

    static void valuesAreNoText() {
        House.says(22, "TEXT IN ONE LINE: the widths of all bytes of all TEXTS in it (whatever their display), in order,");
        House.due("a FLOAT of an input", House.shown(40, "p{float:left;margin:0}", "<p><input value=abc></p>").box(3), "0 0 0 11");
        House.due("a FLEX of one", House.shown(40, "div{display:flex}", "<div><p><input value=abc></p></div>").box(4), "2 2 0 11");
        House.due("a button of one", House.paged("<button>ab<input value=c></button>").box(1), "0 0 12 11");
    }

    static void topAndBottomUnlike() {
        House.says(22, "TOP of a BLOCK is its margin, or TOP of the first thing in it, if that is greater,");
        String sheet = "p{margin:5}";
        House.due("TOP of the first thing", House.shown(40, sheet, "<div><div><p>a</p>b</div>c</div>").box(3), "0 5 40 26");
        House.due("not BOTTOM of it", House.shown(40, sheet, "<div><div>b<p>a</p></div>c</div>").box(3), "0 0 40 31");
        House.says(22, "BOTTOM likewise by the last thing, if its height is not told, too.");
        House h = House.shown(40, sheet, "<div>c<div>b<p>a</p></div></div>d");
        House.due("BOTTOM of the last thing", h.box(3) + " " + h.it.word(3, 4), "0 0 40 26 31");
        h = House.shown(40, sheet, "<div>c<div><p>a</p>b</div></div>d");
        House.due("not TOP of it", h.box(3) + " " + h.it.word(3, 4), "0 0 40 31 31");
        House.says(22, "behind a BLOCK, at that one's end and the greater one of its BOTTOM and this TOP;");
        h = House.shown(40, sheet, "<div><p>a</p>b</div><div>c</div>");
        House.due("not that one's TOP", h.box(3) + " " + h.it.box(7, 1), "0 5 40 19 24");
        h = House.shown(40, sheet, "<div>a</div><div>b<p>c</p></div>");
        House.due("not this one's BOTTOM", h.box(3) + " " + h.it.box(5, 1), "0 0 40 7 7");
    }

    static void rightEdgeOfNone() {
        House.says(22, "its INNER rectangle is without these (0 wide at least).");
        House h = House.shown(20, "div{padding:20;border:3}b{float:right;width:5;height:5}i{float:left;width:5;height:5}", "<b></b>");
        House.due("at the right edge of 0", h.box(3), "18 23 5 5");
        h = House.shown(20, "div{padding:20;border:3;align:right}", "a");
        House.due("nothing is left", h.places(), "23,23");
    }

    static void sizesInOneLine() {
        House.says(22, "all by the size s of that ELEMENT whose text it is (also in THE PICTURE).");
        String sheet = "div{size:3}.f{display:flex;size:1}b,p,button{size:2;margin:0}p{float:left}";
        House h = House.shown(90, sheet, "<div class=f><b>a<i>c d</i></b></div>");
        House.due("in a FLEX", h.box(4), "0 0 30 14");
        House.due("a FLOAT", House.shown(90, sheet, "<p>ab</p>").box(3), "0 0 16 14");
        House.due("a button", House.shown(90, sheet, "<button>ab</button>").box(3), "0 0 20 18");
    }

    static void noneInAFlex() {
        House.says(22, "FLEX: its ELEMENTS that have not display none (TEXTS and br are left out) stand side by side,");
        House h = House.shown(60, "div{display:flex}.n{display:none}", "<div><p id=x>aaa</p><b>b</b></div>");
        House.due("two", h.box(4) + "/" + h.box(6), "2 2 12 7/16 0 4 7");
        h.script("class x n");
        House.due("one", h.box(6) + " " + h.it.box(3, 3), "0 0 4 7 7");
        h.script("class x k");
        House.due("two again", h.box(6) + " " + h.it.box(3, 3), "16 0 4 7 11");
    }

    // ---- the picture

    static void imgWithoutBorder() {
        House.says(24, "PIECES: img all in color;");
        House h = House.shown(20, "img{color:5}.k{background:7;padding:2}", "<img><img class=k>");
        for (int y = 0; y < 8; y++) {
            for (int x = 0; x < 16; x++) {
                House.due("point " + x + ", " + y, h.it.point(x, y), 5);
            }
            House.due("beside", h.it.point(16, y), 0);
        }
    }

    static void aboveAWord() {
        House.says(25, "ON TOP of a point is the last BOX or ITEM painted there (each over all of its rectangle, whatever it shows): its NODE (of a WORD its TEXT).");
        House h = House.shown(48, "img{width:30;height:14}", "<img>ab");
        for (int y = 0; y < 14; y++) {
            House.due("over the WORD's first column, at " + y, h.it.top(30, y), y < 7 ? 0 : 4);
            House.due("over its last column, at " + y, h.it.top(37, y), y < 7 ? 0 : 4);
            House.due("ahead of it, at " + y, h.it.top(29, y), 3);
            House.due("behind it, at " + y, h.it.top(38, y), 0);
        }
        House.due("no more", h.it.top(30, 14), -1);
    }

    // ---- acts

    static void noButton() {
        House.says(26, DEFAULT);
        House h = House.paged("<form action=/s>a<img></form>");
        House.due("a TEXT in a form", h.it.press(1, 3), 2);
        House.due("an img in it", h.it.press(6, 1), 3);
        House.due("the form itself", h.it.press(40, 3), 1);
        House.due("nothing is SENT", h.address() + " " + h.it.count(5), "//home/ 0");
        h = House.paged("<a href=/y><form action=/s><button>b</button></form></a>");
        House.due("a button in a form in an a", h.it.press(1, 1), 3);
        House.due("the first one alone", h.address() + " " + h.it.count(5), "//home/s? 1");
        h = House.paged("<a href=/y><input type=check></a>");
        h.it.press(1, 1);
        House.due("a check in an a", h.address() + " " + h.it.checked(2), "//home/ 1");
    }

    static void namesOfOthers() {
        House.says(26, "for each input in it, in order, whose ATTRIBUTE name is a NAME:");
        House h = House.paged("<form action=/s><button name=a value=v>k</button><b name=c value=v></b><img name=d><input name=q></form>");
        h.it.press(1, 1);
        House.due("inputs alone", h.address(), "//home/s?q=");
        h = House.paged("<form action=/s name=f><button>k</button></form>");
        h.it.press(1, 1);
        House.due("nor the form", h.address(), "//home/s?");
    }

    static void idsThatAreNoNames() {
        House.says(28, "I is a NAME (the first NODE, in the tree's order, whose id it is) or self (the LISTENER's NODE).");
        String[] ids = {"X", "9", "x-y", "abcdefghi", "", "-", "."};
        for (String id : ids) {
            House h = House.paged("<b id='" + id + "'>o</b>");
            House.due("no STEP on " + id, h.script("text " + id + " v;del " + id + ";add " + id + " b"), 0);
            House.due("it stays", h.name(2), "o");
            House.due("WRONG on " + id, h.it.count(11), 3);
        }
        House h = House.paged("<b id=abcdefgh>o</b>");
        House.due("one byte more", h.script("text abcdefghi v"), 0);
        House.due("one less", h.script("text abcdefg v"), 0);
        h = House.paged("<b id=self>o</b>");
        House.due("self is no id", h.script("text self v"), 1);
        House.due("THE ROOT's", h.tree(), "<div>v</div>");
    }

    // ---- numbers that are not in the tree's order

    /** The first NODE that is shown goes, and what comes later in the tree has its number. */
    private static House renumbered(String sheet, String page, String script) {
        House h = House.shown(40, sheet, "<b id=x>q</b>" + page);
        House.due("it goes", h.script("del x;" + script) > 1 ? 1 : 0, 1);
        return h;
    }

    static void numbersOfBoxes() {
        House.says(12, "(one that comes gets the least number that is free):");
        House h = renumbered("p{margin:0}.k{background:3}.m{background:5;height:9}u{display:block;background:7;height:4}",
                "<p class=k>one</p><div id=z class=m></div>", "add z u;add z img");
        House.due("the u", h.it.node(3, 1) + " " + h.it.node(3, 3), "7 0");
        House.due("the img", h.it.node(4, 1) + " " + h.it.node(4, 3), "7 1");
        House.due("SERIALISED", h.out(h.it.serialise(7)), "<div id=\"z\" class=\"m\"><u></u><img></div>");
        House.due("all of them", h.select("*"), 6);
        House.says(19, "these are FOUND, in the tree's order.");
        House.due("in the tree's order", h.found(), "0 1 5 7 3 4");
        House.says(22, "Of an ELEMENT's BOX, or PIECE, what 0: x, 1: y, 2: width, 3: height;");
        House.due("p", h.box(5), "0 0 40 7");
        House.due("div", h.box(7), "0 7 40 9");
        House.due("u", h.box(3), "0 7 40 4");
        House.due("img", h.box(4), "0 11 8 8");
        House.due("THE ROOT", h.box(0), "0 0 40 16");
        House.says(25, "The NODE ON TOP of a point;");
        House.due("the WORD", h.it.top(1, 1), 6);
        House.due("p", h.it.top(20, 1), 5);
        House.due("u", h.it.top(20, 8), 3);
        House.due("div", h.it.top(20, 12), 7);
        House.due("img", h.it.top(1, 12), 4);
        House.says(24, "Painted are, NODE by NODE of what has a place, each ahead of what lies in it,");
        House.due("p", h.it.point(20, 1), 3);
        House.due("u", h.it.point(20, 8), 7);
        House.due("div", h.it.point(20, 12), 5);
        House.due("img", h.it.point(1, 12), 63);
    }

    static void numbersOfTexts() {
        House.says(23, "Of the i-th WORD of all, in the tree's order,");
        House h = renumbered("p{margin:0;color:3}div{color:5}", "<p>one</p><div id=z></div>", "text z two");
        House.due("the first", h.word(0), "6 0 3 0 0 12 7");
        House.due("the second", h.word(1), "3 0 3 0 7 13 7");
        House.due("its NODE", h.it.top(1, 8), 3);
        House ended = renumbered("img{width:2}", "<i id=z></i><img>", "text z two ");
        House.due("the blank at its end", ended.word(0) + "/" + ended.box(6), "3 0 3 0 1 13 7/16 0 2 8");
        House fresh = House.shown(40, "p{margin:0;color:3}div{color:5}", "<p>one</p><div>two</div>");
        for (int x = 0; x < 20; x++) {
            for (int y = 0; y < 14; y++) {
                House.due("point " + x + ", " + y, h.it.point(x, y), fresh.it.point(x, y));
            }
        }
    }

    static void numbersOfPieces() {
        House.says(24, "input and button: like BOXES, then the input's VALUE (below),");
        House h = renumbered("input{width:9;border:2;color:2;background:1}", "<p id=y></p><p id=z>a</p>", "add y input;add z input");
        House.due("the first", h.box(3), "2 2 9 11");
        House.due("the second", h.box(4), "6 15 9 11");
        House.due("its border", h.it.point(6, 15), 2);
        House.due("its BACKGROUND", h.it.point(8, 17), 1);
        House.due("the first one's", h.it.point(4, 4), 1);
        House.due("pressed", h.it.press(8, 17) + " " + h.it.count(13), "4 4");
    }

    static void numbersOfFloats() {
        House.says(22, "If its LINE has an ITEM, it waits for the LINE's end,");
        House h = renumbered("p{margin:0}u{float:left;width:6;height:5}", "<p id=y>one</p>two", "add y u");
        House.due("the FLOAT", h.box(3), "0 7 6 5");
        House.due("its BLOCK", h.box(5), "0 0 40 12");
        House.due("what is behind", h.word(1), "7 0 3 0 12 13 7");
        House.says(22, "FLEX: its ELEMENTS that have not display none (TEXTS and br are left out) stand side by side,");
        h = renumbered(".f{display:flex}u{width:6;height:5}", "<div id=z class=f><i>aa</i></div>", "add z u");
        House.due("in a FLEX", h.box(6) + "/" + h.box(3) + "/" + h.box(5), "0 0 8 7/8 0 6 5/0 0 40 7");
        h = renumbered(".f{display:flex}i{width:6;height:5}", "<div id=z></div>", "add z i;add z i;class z f");
        House.due("all of it", h.box(3) + "/" + h.box(4) + "/" + h.box(5), "0 0 6 5/6 0 6 5/0 0 40 5");
    }

    static void numbersOfMargins() {
        House.says(22, "TOP of a BLOCK is its margin, or TOP of the first thing in it, if that is greater,");
        House h = renumbered("p{margin:5}", "<div id=z><div id=w></div></div>e", "add w p");
        House.due("the p", h.box(3), "5 5 30 0");
        House.due("around it", h.box(6) + "/" + h.box(5), "0 5 40 0/0 5 40 0");
        House.due("behind them", h.places(), "0,10");
        h = renumbered("p{margin:5;height:2}", "<b>a<i>c</i></b><div id=z></div>e", "add z p");
        House.due("behind what is inline", h.box(3) + "/" + h.places(), "5 12 30 2/0,0 4,0 0,19");
        h = renumbered("p{margin:0;height:2}.n{display:none}", "<p id=y>a</p><p class=n><i>c</i></p><p id=z></p>e", "add z div;add y p");
        House.due("what lies in a BLOCK goes with it", h.places(), "0,0 0,4");
    }

    static void serialisedAlone() {
        House.says(16, "SERIALISED, written to THE OUT: how many bytes,");
        House h = House.paged("<div><p><b>x</b></p></div>");
        String[] due = {"<div><div><p><b>x</b></p></div></div>", "<div><p><b>x</b></p></div>", "<p><b>x</b></p>", "<b>x</b>", "x"};
        for (int n = 0; n < due.length; n++) {
            House.due("NODE " + n, h.out(h.it.serialise(n)), due[n]);
        }
        h = House.paged("<p><i></i><br></p><b></b>");
        String[] last = {"<div><p><i></i><br></p><b></b></div>", "<p><i></i><br></p>", "<i></i>", "<br>", "<b></b>"};
        for (int n = 0; n < last.length; n++) {
            House.due("NODE " + n + " of the other", h.out(h.it.serialise(n)), last[n]);
        }
    }

    static void behindAQuotedValue() {
        House.says(16, "Behind it, up to a > that is in no VALUE, bytes 10, 32 and / part ATTRIBUTES (those of end TAGS are read, and gone):");
        House.due("= of an end TAG", House.paged("<b>x</b a=\"x\"=\">\">y").tree(), "<div><b>x</b>&quot;&gt;y</div>");
        House.due("= of a start TAG", House.paged("<b a=\"x\"=\">\">y</b>").tree(), "<div><b a=\"x\" =\"=\"\">&quot;&gt;y</b></div>");
        House.due("a quote of an end TAG", House.paged("<b>x</b a='x''>'>y").tree(), "<div><b>x</b>'&gt;y</div>");
        House.due("a NAME right behind", House.paged("<b>x</b a='>'b='>'>y").tree(), "<div><b>x</b>y</div>");
    }

    // ---- many, far and long

    static void widerThanAll() {
        House.says(23, "An ITEM that does not go into what is left comes onto the next LINE, whose y is the end of this one;");
        House.due("150 wide", House.paged("a " + "m".repeat(30)).places(), "0,0 0,7");
        House.due("600 wide, then a short one", House.shown(40, "b{size:3}", "<b>" + "m".repeat(40) + "</b> a").places(), "0,0 0,21");
        House.says(23, "if nothing is on the LINE and FLOATS are AT y, y goes on to the least end of these, and it is tried again; without any it is put all the same.");
        House.due("beside a FLOAT", House.shown(40, "i{float:left;width:5;height:20}", "<i></i>" + "m".repeat(30)).places(), "0,20");
        House h = House.shown(48, "u{float:left;width:10;height:12}i{float:left;width:96;height:5;margin:20}", "<u></u><i></i>");
        House.due("a FLOAT of 136", h.box(4), "20 32 96 5");
    }

    static void twoHundredWords() {
        House.says(23, "ITEMS come one behind the other; with BLANKS between it and the ITEM before it on its LINE one is 3 s further on (its own s);");
        House h = House.paged("a ".repeat(200));
        for (int i = 0; i < 200; i++) {
            House.due("WORD " + i, h.it.word(i, 3) + 1000 * h.it.word(i, 4), i % 7 * 7 + 1000 * (i / 7 * 7));
        }
    }

    static void floatsFarDown() {
        House.says(22, "else y goes on to the least end of FLOATS AT it, and so on; with none it is put all the same.");
        String sheet = "p{height:96;margin:0}i{float:left;width:30;height:10}b{float:left;width:10;height:30}";
        House h = House.shown(48, sheet, "<p></p><p></p><i></i><i></i>");
        House.due("below the first", h.box(5) + "/" + h.box(6), "0 192 30 10/0 202 30 10");
        h = House.shown(48, sheet, "<p></p><p></p><i></i><b></b><i></i>");
        House.due("below both", h.box(5) + "/" + h.box(6) + "/" + h.box(7), "0 192 30 10/30 192 10 30/0 222 30 10");
        House.due("the height", h.it.box(0, 3), 232);
    }

    static void farInASheet() {
        House.says(20, "RULES, blanks and 10s between anything:");
        House h = House.shown(40, "b{color:1;background:2;margin:3;padding:4}  i , \n u\n.k  {color:7}", "<i></i><u><s class=k></s></u>");
        House.due("both SELECTORS", h.it.style(3, 1) + " " + h.it.style(5, 1) + " " + h.it.count(16), "7 7 3");
        House.says(20, "(of one RULE that DECLARES it twice the last one of those with !, else the last one).");
        h = House.shown(40, "b{color:1!;size:2!;margin:1}i{color:2;size:3;margin:2!}", "<i></i><b></b>");
        House.due("a ! of another RULE", h.it.style(3, 1) + " " + h.it.style(3, 8) + " " + h.it.style(3, 3), "2 3 2");
        House.due("that RULE's own", h.it.style(4, 1) + " " + h.it.style(4, 8) + " " + h.it.style(4, 3), "1 2 1");
        h = House.shown(40, "b{color:1}i{color:2!;color:3}u{color:4!;color:5!}", "<i></i><u></u>");
        House.due("twice, not in the first RULE", h.it.style(3, 1) + " " + h.it.style(4, 1), "2 5");
    }

    static void farInAScript() {
        House.says(28, "The text, a SCRIPT, is run, self being THE ROOT: how many STEPS were run (WRONG ones not).");
        House h = House.paged("<b id=x>o</b><input id=y>");
        String far = "put a b;".repeat(60);
        House.due("all of them", h.script(far + "text x v;class x k;add x u;val y w;wait 1 put c d;read x a"), 66);
        House.due("the last one", h.tree(), "<div><b id=\"x\" class=\"k\">b</b><input id=\"y\"></div>");
        House.due("ahead of it", h.value(3) + " " + h.it.count(9), "w 1");
    }

    static void theLongestThatIsSent() {
        House.says(26, "a VISIT of its action (else this page's ADDRESS) with a QUERY in place of its own:");
        String path = "//abcdefgh" + "/abcdefghijkl".repeat(6);
        String asked = "?abcdefgh=" + "v".repeat(24) + "&q=abcd";
        for (String query : new String[] {"", "?", "?q", "?" + "q".repeat(40)}) {
            for (String mark : new String[] {"", "#m", "#abcdefgh"}) {
                House h = new House();
                h.visit(path + query + mark);
                h.page("<form><button>k</button><input name=abcdefgh value=" + "v".repeat(24) + "><input name=q value=abcde></form>");
                h.it.press(1, 1);
                House.due("from" + query + mark, h.address(), path + asked + mark);
            }
        }
    }

    static void deepInAForm() {
        House.says(26, "a button in a form: that is SENT.");
        House h = House.paged("<p>x</p><form action=/s><ul><li><div><span><b><i><button>k</button></i></b></span></div></li></ul></form>");
        House.due("the button", h.it.press(h.it.box(10, 0), h.it.box(10, 1)), 10);
        House.due("SENT", h.address(), "//home/s?");
        h = House.paged("<p>x</p><ul><li><div><span><b><i><button>k</button></i></b></span></div></li></ul><form action=/s></form>");
        h.it.press(h.it.box(9, 0), h.it.box(9, 1));
        House.due("in none", h.address(), "//home/");
    }
}
