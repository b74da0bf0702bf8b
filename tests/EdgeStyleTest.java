/** Promise 20 style, and what Part V says of SHEET TEXTS, RULES and PROPERTIES: at their edges. */
public final class EdgeStyleTest {
    private static final String USUAL = "1 63 -1 0 0 0 -1 -1 1 0 0";

    public static void main(String[] args) throws ReflectiveOperationException {
        House.run(EdgeStyleTest.class);
    }

    private static House styled(String sheet, String page) {
        House h = new House();
        h.page("<style>" + sheet + "</style>" + page);
        return h;
    }

    /** A PROPERTY of a b by one DECLARATION. */
    private static void is(String declaration, int property, int due) {
        House.due("b{" + declaration + "}", styled("b{" + declaration + "}", "<b></b>").it.style(3, property), due);
    }

    /** How many SELECTORS a sheet has, and the color that it gives to a b. */
    private static void sheet(String sheet, int selectors, int color) {
        House h = styled(sheet, "<b></b>");
        h.select("b");
        House.due("SELECTORS of " + sheet, h.it.count(16), selectors);
        House.due("color by " + sheet, h.it.style(h.it.found(0), 1), color);
    }

    // ---- promise 20

    static void styleOfNone() {
        House.says(20, "NONE for a width, height, background that there is not, no such NODE or PROPERTY.");
        House h = new House();
        h.page("<b id=x>t</b>");
        House.due("width", h.it.style(1, 6), -1);
        House.due("height", h.it.style(1, 7), -1);
        House.due("background", h.it.style(1, 2), -1);
        for (int property : new int[] {-1, 11, Integer.MAX_VALUE, Integer.MIN_VALUE}) {
            House.due("PROPERTY " + property, h.it.style(1, property), -1);
        }
        for (int n : new int[] {-1, 3, 119, 120, Integer.MAX_VALUE, Integer.MIN_VALUE}) {
            House.due("NODE " + n, h.it.style(n, 1), -1);
        }
        h.script("del x");
        House.due("one that went", h.it.style(1, 1), -1);
        House.due("its TEXT", h.it.style(2, 1), -1);
    }

    static void styleOfAText() {
        House.says(20, "An ELEMENT's PROPERTY (of a TEXT: of what it lies in);");
        House h = styled("b{color:1;background:2;margin:3;width:50%;height:5;float:right}", "<b>t</b>");
        House.due("all of them", h.styles(4), h.styles(3));
        House.due("as told", h.styles(4), "0 1 2 3 0 0 1050 5 1 0 2");
        h.page("t");
        House.due("of THE ROOT", h.styles(1), "0 63 -1 0 0 0 -1 -1 1 0 0");
    }

    static void answersOfStyle() {
        House.says(20, "width in percent as 1000 and that; display 0 block, 1 inline, 2 none, 3 flex; align 0 left, 1 center, 2 right; float 0 none, 1 left, 2 right;");
        is("width:1%", 6, 1001);
        is("width:100%", 6, 1100);
        is("display:block", 0, 0);
        is("display:inline", 0, 1);
        is("display:none", 0, 2);
        is("display:flex", 0, 3);
        is("align:left", 9, 0);
        is("align:center", 9, 1);
        is("align:right", 9, 2);
        is("float:none", 10, 0);
        is("float:left", 10, 1);
        is("float:right", 10, 2);
    }

    // ---- SHEET TEXTS

    static void eachTextByItself() {
        House.says(20, "SHEET TEXT (the TEXT that lies in a style, each by itself; the RULES of all styles of THE TREE, in order, are one row):");
        House h = new House();
        h.page("<style>b{color:1}b{</style><style>color:2}</style><style>b{size:2}</style><b></b>");
        House.due("a RULE does not go on in the next", h.it.style(7, 1), 1);
        House.due("the third", h.it.style(7, 8), 2);
        House.due("SELECTORS of all", h.it.count(16), 2);
        h.page("<p>b{color:1}</p><b></b>");
        House.due("a TEXT in anything else", h.it.count(16), 0);
        h.page("<b></b><div><style>b{color:1}</style></div><style>b{color:2}</style>");
        House.due("in order, wherever they lie", h.it.style(1, 1), 2);
        h.page("<style>b{color:1}</style><b></b>" + "<style></style>");
        House.due("a style without TEXT", h.it.count(16), 1);
    }

    static void blanksBetweenAnything() {
        House.says(20, "RULES, blanks and 10s between anything: SELECTORS with , between, {, DECLARATIONS with ; between (perhaps one behind the last one, too), }.");
        sheet("b{color:1}", 1, 1);
        sheet(" \n b \n , \n i \n { \n color \n : \n 1 \n ! \n ; \n size \n : \n 2 \n ; \n } \n ", 2, 1);
        sheet("b{color:1;}", 1, 1);
        sheet("b{;color:1}", 1, 1);
        sheet("b{color:1;;size:2}", 1, 1);
        sheet("", 0, 63);
        sheet(" \n", 0, 63);
        sheet("b,i{color:1}", 2, 1);
        sheet("i,b{color:1}", 2, 1);
        sheet("b,b{color:1}", 2, 1);
        sheet("b i{color:1}", 1, 63);
    }

    static void rulesWithoutDeclaration() {
        House.says(20, "RULES without any DECLARATION are RULES, their SELECTORS count.");
        sheet("b{}", 1, 63);
        sheet("b,i{}", 2, 63);
        sheet("b{;}", 1, 63);
        sheet("b{zip}", 1, 63);
        sheet("b{ }p{color:1}", 2, 63);
    }

    static void endOfARule() {
        House.says(20, "A RULE ends at the next } from its begin on (what has none is no RULE), its first { ends the SELECTORS;");
        sheet("b{color:1", 0, 63);
        sheet("b{color:1}i{", 1, 1);
        sheet("b{color:1}i", 1, 1);
        sheet("}b{color:1}", 1, 1);
        sheet("i}b{color:1}", 1, 1);
        sheet("i{}}b{color:1}", 2, 1);
        sheet("i{b{color:1}", 1, 63);
        sheet("b{{color:1}", 1, 63);
        sheet("b{size:2;{;color:1}", 1, 1);
        sheet("i{b}color:2}b{color:1}", 2, 1);
    }

    static void passedOver() {
        House.says(20, "one that can't be read so is passed over; a DECLARATION that can't up to the next ; or that }.");
        sheet("B{color:2}b{color:1}", 1, 1);
        sheet("b,{color:2}b{color:1}", 1, 1);
        sheet(",b{color:2}b{color:1}", 1, 1);
        sheet("b,,b{color:2}", 0, 63);
        sheet("{color:2}b{color:1}", 1, 1);
        sheet(" {color:2}b{color:1}", 1, 1);
        sheet("b,B{color:2}b{color:1}", 1, 1);
        sheet("b b b b{color:2}b{color:1}", 1, 1);
        sheet("div b{color:1}", 1, 1);
        sheet(".k.k.k.k.k,b{color:2}b{color:1}", 1, 1);
        sheet("abcdefghi,b{color:2}b{color:1}", 1, 1);
        sheet("b{zip;color:1}", 1, 1);
        sheet("b{color:1;color:64}", 1, 1);
        sheet("b{color:1;color}", 1, 1);
        sheet("b{color:1;color:}", 1, 1);
        sheet("b{color:1;color:!}", 1, 1);
        sheet("b{color:1;color:2 3}", 1, 1);
        sheet("b{color:1;color:2!!}", 1, 1);
        sheet("b{color:1;color:2 ! !}", 1, 1);
        sheet("b{color:1;color::2}", 1, 1);
        sheet("b{color:1;co lor:2}", 1, 1);
        sheet("b{color:1;color2:2}", 1, 1);
        sheet("b{color:1;colors:2}", 1, 1);
        sheet("b{color:1;colo:2}", 1, 1);
        sheet("b{color:1;Color:2}", 1, 1);
        sheet("b{color:1;:2}", 1, 1);
    }

    static void declarations() {
        House.says(20, "DECLARATION: a PROPERTY, :, a VALUE, perhaps !.");
        sheet("b{color:1}", 1, 1);
        sheet("b{color:1!}b{color:2}", 2, 1);
        sheet("b{color:1 !}b{color:2}", 2, 1);
        sheet("b{!color:1}", 1, 63);
        sheet("b{color!:1}", 1, 63);
        sheet("b{color:!1}", 1, 63);
        sheet("b{color=1}", 1, 63);
        sheet("b{color 1}", 1, 63);
        sheet("b{display:color}", 1, 63);
    }

    static void fortySelectors() {
        House.says(20, "At most 40 SELECTORS in all (each with its RULE's DECLARATIONS; what is beyond is passed over).");
        sheet("i,".repeat(38) + "i{}b{color:1}", 40, 1);
        sheet("i,".repeat(39) + "i{}b{color:1}", 40, 63);
        sheet("i,".repeat(38) + "i{}b,b{color:1}b{color:2}", 40, 1);
        sheet("i,".repeat(38) + "i{}i,b{color:1}", 40, 63);
        sheet("b{}".repeat(39) + "b{color:1}", 40, 1);
        sheet("b{}".repeat(40) + "b{color:1}", 40, 63);
        sheet("i,".repeat(39) + "b{color:1}", 40, 1);
        sheet("i,".repeat(40) + "b{color:1}", 40, 63);
        sheet("B{}".repeat(50) + "b{color:1}", 1, 1);
        House h = new House();
        h.page("<style>" + "i,".repeat(38) + "i{}</style><style>b{color:1}</style><style>b{color:2}</style><b></b>");
        House.due("of all styles together", h.it.style(7, 1), 1);
        House.due("40", h.it.count(16), 40);
    }

    // ---- MATCHES

    static void weights() {
        House.says(20, "WEIGHT: 100 for each #, 10 for each . , 1 for each NAME.");
        String page = "<p id=y class=k><span id=z class=k><b id=x class=k></b></span></p>";
        Object[][] rows = {
            {"b{color:1}*{color:2}", 1}, {".k{color:1}div p b{color:2}", 1}, {"#x{color:1}.k.k.k.k .k.k.k.k .k{color:2}", 1},
            {"#x{color:1}.k.k.k.k .k.k.k.k .k.k{color:2}", 2}, {".k.k.k.k .k.k.k.k .k.k{color:2}#x{color:1}", 1},
            {"#x{color:1}.k.k.k.k .k.k.k.k .k.k.k{color:2}", 2}, {"#x#x{color:1}.k.k.k.k .k.k.k.k .k.k.k.k{color:2}", 1},
            {"#y#y#y#y #z#z#z#z #x#x#x#x{color:1}#x{color:2}", 1}, {"p b{color:1}span b{color:2}", 2}, {"p span b{color:1}span b{color:2}", 1},
            {"* b{color:1}b{color:2}", 2}, {"*{color:1}*{color:2}", 2}, {"*.k{color:1}b{color:2}", 1}, {"b#x{color:1}#x.k{color:2}", 2},
        };
        for (Object[] row : rows) {
            House.due("color by " + row[0], styled((String) row[0], page).it.style(5, 1), (Integer) row[1]);
        }
    }

    static void whichOneCounts() {
        House.says(20, "With: that of the SELECTOR that MATCHES with ! ahead of those without, then the greatest WEIGHT, then the last one (of one RULE that DECLARES it twice the last one of those with !, else the last one).");
        String page = "<b id=x class=k></b>";
        Object[][] rows = {
            {"b{color:1!}#x{color:2}", 1}, {"b{color:1!}#x{color:2!}", 2}, {"#x{color:1!}b{color:2!}", 1}, {"b{color:1!}b{color:2!}", 2},
            {"b{color:1!}b{color:2}", 1}, {"b{color:1;color:2}", 2}, {"b{color:1!;color:2}", 1}, {"b{color:1!;color:2!}", 2},
            {"b{color:1!;color:2!;color:3}", 2}, {"b{color:1;color:2!;color:3}", 2}, {"#x,b{color:1}.k{color:2}", 1}, {"b,#x{color:1}.k{color:2}", 1},
            {"b{color:1!;size:2}#x{color:2;size:3}", 1}, {"b{color:0!}#x{color:2}", 0}, {"b{color:0!;color:2}", 0}, {"b,i{color:1}b{color:2}", 2},
        };
        for (Object[] row : rows) {
            House.due("color by " + row[0], styled((String) row[0], page).it.style(3, 1), (Integer) row[1]);
        }
        House.due("each PROPERTY for itself", styled("b{color:1!;size:2}#x{color:2;size:3}", page).it.style(3, 8), 3);
    }

    // ---- PROPERTIES

    static void colors() {
        House.says(20, "1 color, 2 background: a NUMBER 0 .. 63;");
        is("color:0", 1, 0);
        is("color:63", 1, 63);
        is("color:1;color:63", 1, 63);
        is("color:1;color:64", 1, 1);
        is("color:1;color:9999", 1, 1);
        is("color:1;color:-1", 1, 1);
        is("background:0", 2, 0);
        is("background:63", 2, 63);
        is("background:64", 2, -1);
    }

    static void edges() {
        House.says(20, "3 margin, 4 padding, 5 border: 0 .. 20 (border 0 .. 3);");
        is("margin:20", 3, 20);
        is("margin:21", 3, 0);
        is("margin:1;margin:0", 3, 0);
        is("padding:20", 4, 20);
        is("padding:21", 4, 0);
        is("padding:1;padding:0", 4, 0);
        is("border:3", 5, 3);
        is("border:4", 5, 0);
        is("border:1;border:0", 5, 0);
    }

    static void widths() {
        House.says(20, "6 width: 0 .. 96, or 1 to 100 with % behind; 7 height: 0 .. 96;");
        is("width:0", 6, 0);
        is("width:96", 6, 96);
        is("width:97", 6, -1);
        is("width:0%", 6, -1);
        is("width:1%", 6, 1001);
        is("width:100%", 6, 1100);
        is("width:101%", 6, -1);
        is("width:%", 6, -1);
        is("width:5%%", 6, -1);
        is("height:0", 7, 0);
        is("height:96", 7, 96);
        is("height:97", 7, -1);
        is("height:5%", 7, -1);
        is("margin:5%", 3, 0);
    }

    static void sizes() {
        House.says(20, "8 size: 1 .. 3; 9 align: left center right; 10 float: none left right.");
        is("size:1", 8, 1);
        is("size:3", 8, 3);
        is("size:2;size:0", 8, 2);
        is("size:2;size:4", 8, 2);
        is("align:right;align:middle", 9, 2);
        is("align:right;align:none", 9, 2);
        is("align:right;align:1", 9, 2);
        is("float:right;float:none", 10, 0);
        is("align:right;align:left", 9, 0);
        is("display:flex;display:block", 0, 0);
        is("display:flex;display:inline", 0, 1);
        is("float:right;float:center", 10, 2);
        is("float:right;float:lef", 10, 2);
        is("float:right;float:lefts", 10, 2);
        is("float:right;float:", 10, 2);
    }

    static void displays() {
        House.says(20, "PROPERTIES, their VALUES: 0 display: block inline none flex (0 .. 3);");
        is("display:flex;display:bloc", 0, 3);
        is("display:flex;display:blocks", 0, 3);
        is("display:flex;display:0", 0, 3);
        is("display:flex;display:", 0, 3);
        is("display:flex;display:block inline", 0, 3);
    }

    static void zerosAndBlanks() {
        House.says(20, "A NUMBER may have 0s ahead; blanks stand ahead of !, not of %.");
        is("color:0007", 1, 7);
        is("color:00007", 1, 63);
        is("width:0050%", 6, 1050);
        is("width:00050%", 6, -1);
        is("width:50 %", 6, -1);
        is("width:50\n%", 6, -1);
        is("width:50% !", 6, 1050);
        is("width:50%!", 6, 1050);
        is("color:7 \n !", 1, 7);
        is("size:002", 8, 2);
    }

    static void withoutADeclaration() {
        House.says(20, "Without a DECLARATION: color, size, align those of what it lies in (THE ROOT: 63, 1, left);");
        House.due("THE ROOT", new House().styles(0), "0 63 -1 0 0 0 -1 -1 1 0 0");
        House h = styled("div{color:5;size:3;align:right}", "<p><b></b></p>");
        House.due("two deep", h.styles(4), "1 5 -1 0 0 0 -1 -1 3 2 0");
        h = styled("p{color:0;size:2;align:center;background:1;margin:9;padding:9;border:3;width:9;height:9;float:left;display:flex}", "<p><b></b></p>");
        House.due("those three alone", h.styles(4), "1 0 -1 0 0 0 -1 -1 2 1 0");
        h = new House();
        h.page("<style>div{color:9}</style>" + "<b>".repeat(20));
        House.due("20 deep", h.it.style(22, 1), 9);
    }

    static void usualOnes() {
        House.says(20, "else display block of BLOCK TAGS, button: inline, style: none, all others inline; margin 2 of p, h1, ul, else 0; padding 4 of ul, 1 of button, else 0; border 1 of button, input, hr, else 0; size of h1: 2; width, height, background none; float none.");
        String[][] rows = {
            {"div", "0 63 -1 0 0 0 -1 -1 1 0 0"}, {"p", "0 63 -1 2 0 0 -1 -1 1 0 0"}, {"h1", "0 63 -1 2 0 0 -1 -1 2 0 0"},
            {"ul", "0 63 -1 2 4 0 -1 -1 1 0 0"}, {"li", "0 63 -1 0 0 0 -1 -1 1 0 0"}, {"form", "0 63 -1 0 0 0 -1 -1 1 0 0"},
            {"hr", "0 63 -1 0 0 1 -1 -1 1 0 0"}, {"input", "1 63 -1 0 0 1 -1 -1 1 0 0"}, {"button", "1 63 -1 0 1 1 -1 -1 1 0 0"},
            {"style", "2 63 -1 0 0 0 -1 -1 1 0 0"}, {"span", USUAL}, {"a", USUAL}, {"b", USUAL}, {"i", USUAL}, {"br", USUAL}, {"img", USUAL}, {"zz", USUAL},
        };
        for (String[] row : rows) {
            House h = new House();
            h.page("<" + row[0] + ">");
            House.due(row[0], h.styles(1), row[1]);
        }
        House.due("h1 in size 3", styled("div{size:3}", "<h1></h1>").it.style(3, 8), 2);
        House.due("what lies in h1", styled("b{color:1}", "<h1><b></b></h1>").it.style(4, 8), 2);
        House.due("h1 told", styled("h1{size:1}", "<h1></h1>").it.style(3, 8), 1);
    }

    static void floatsAreBlocks() {
        House.says(20, "A float makes display inline block;");
        is("float:left", 0, 0);
        is("float:right;display:inline", 0, 0);
        is("float:none", 0, 1);
        is("float:left;display:none", 0, 2);
        is("float:left;display:flex", 0, 3);
        is("float:left;display:block", 0, 0);
    }

    static void rootIsABlock() {
        House.says(20, "THE ROOT is a block without float whatever is told;");
        for (String display : "block inline none flex".split(" ")) {
            House h = styled("div{display:" + display + "!;float:left!}", "");
            House.due("display " + display, h.it.style(0, 0), 0);
            House.due("float", h.it.style(0, 10), 0);
        }
        House.due("all else is told", styled("div{color:1;margin:2;padding:3;border:1;width:5;height:6;background:7}", "").styles(0), "0 1 7 2 3 1 5 6 1 0 0");
    }

    static void piecesAreInline() {
        House.says(20, "br, img, input, button are inline whatever but none is told, their float is none.");
        for (String tag : "br img input button".split(" ")) {
            for (String display : "block inline flex".split(" ")) {
                House h = styled("*{display:" + display + ";float:left}", "<" + tag + ">");
                House.due(tag + ", " + display, h.it.style(3, 0), 1);
                House.due(tag + ", float", h.it.style(3, 10), 0);
            }
            House.due(tag + ", none", styled(tag + "{display:none;float:right}", "<" + tag + ">").it.style(3, 0), 2);
        }
        House.due("hr is none of them", styled("*{float:left;display:flex}", "<hr>").it.style(3, 0), 3);
    }
}
