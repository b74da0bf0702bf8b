/** Promises 22 box and 23 word, and what Part VI says of LINES, PIECES, FLOATS and FLEX: at their edges. */
public final class EdgeLinesTest {
    private static final String NEXT_LINE = "An ITEM that does not go into what is left comes onto the next LINE, whose y is the end of this one;";
    private static final String AT_Y = "At a y the LINE goes from the INNER left edge, or the greatest right edge (with margin) of left FLOATS of this BLOCK that are AT y (y is not above them, and above their end with margin), to the right one likewise.";

    public static void main(String[] args) throws ReflectiveOperationException {
        House.run(EdgeLinesTest.class);
    }

    private static void places(int width, String sheet, String page, String due) {
        House.due(page + " by " + sheet + " on " + width, House.shown(width, sheet, page).places(), due);
    }

    private static void box(int width, String sheet, String page, int n, String due) {
        House.due(page + " by " + sheet + " on " + width, House.shown(width, sheet, page).box(n), due);
    }

    // ---- PIECES

    static void img() {
        House.says(22, "img (width and height told, else 8 by 8),");
        box(40, "b{size:1}", "<img>", 3, "0 0 8 8");
        box(40, "img{size:3;border:3;padding:9}", "<img>", 3, "0 0 8 8");
        box(40, "img{width:0}", "<img>", 3, "0 0 0 8");
        box(40, "img{height:0}", "<img>", 3, "0 0 8 0");
        box(20, "img{width:96;height:96}", "<img>", 3, "0 0 96 96");
        House.due("a LINE of no height", House.shown(40, "img{height:0}", "<img>").it.box(0, 3), 0);
    }

    static void input() {
        House.says(22, "input (width told, else 24, 7 s and 4 high),");
        box(40, "b{size:1}", "<input>", 3, "0 0 24 11");
        box(40, "input{size:3;border:3;padding:9;height:5}", "<input>", 3, "0 0 24 25");
        box(40, "input{width:0}", "<input>", 3, "0 0 0 11");
        box(20, "b{size:1}", "<input>", 3, "0 0 24 11");
        box(20, "input{width:96}", "<input>", 3, "0 0 96 11");
    }

    static void button() {
        House.says(22, "button (as wide as its text in one line, and its border and padding; 7 s and these high; its size; what lies in it is not laid by itself);");
        box(40, "b{size:1}", "<button></button>", 3, "0 0 4 11");
        box(40, "button{border:0;padding:0}", "<button></button>", 3, "0 0 0 7");
        box(40, "button{border:3;padding:20}", "<button>a</button>", 3, "0 0 50 53");
        box(40, "button{size:3}", "<button>a</button>", 3, "0 0 16 25");
        box(40, "b{size:3}", "<button>a<b>b</b></button>", 3, "0 0 12 11");
        House h = House.shown(40, "b{size:1}", "<button>a<p>b</p><img></button>");
        House.due("a p in it", h.it.box(5, 0), -1000);
        House.due("an img in it", h.it.box(7, 0), -1000);
        House.due("no WORD of it", h.it.word(0, 0), -1000);
    }

    static void sharesOfPieces() {
        House.says(22, "of % the share of the INNER width of the BLOCK, down.");
        box(40, "img{width:33%}", "<img>", 3, "0 0 13 8");
        box(40, "img{width:1%}", "<img>", 3, "0 0 0 8");
        box(40, "img{width:100%}", "<img>", 3, "0 0 40 8");
        box(40, "input{width:50%}p{padding:3;margin:0}", "<p><b><input></b></p>", 5, "3 3 17 11");
    }

    static void ofNoMatter() {
        House.says(22, "Margins of PIECES on LINES, a button's width told are of no matter.");
        House h = House.shown(60, "*{margin:9}div{margin:0}button{width:50}", "<img><input><button>a</button>");
        House.due("img", h.box(3), "0 3 8 8");
        House.due("input", h.box(4), "8 0 24 11");
        House.due("button", h.box(5), "32 0 8 11");
        House.due("as high as the highest", h.it.box(0, 3), 11);
        box(60, "button{width:50%;height:50}", "<button>a</button>", 3, "0 0 8 11");
    }

    // ---- ITEMS on a LINE

    static void sizeOfAnItem() {
        House.says(23, "Each has a size s (a WORD that of what its TEXT lies in). ITEMS come one behind the other;");
        House h = House.shown(96, "b{size:3}i{size:2}", "<b>a<i>a</i></b>a<img>a");
        House.due("sizes and places", h.word(0) + ", " + h.word(1) + ", " + h.word(2) + ", " + h.word(3),
                "4 0 1 0 0 12 21, 6 0 1 12 7 8 14, 7 0 1 20 14 4 7, 9 0 1 32 14 4 7");
        House.due("a PIECE among them", h.box(8), "24 13 8 8");
    }

    static void wordsAndPieces() {
        House.says(23, "LINES: WORDS, and PIECES:");
        House h = House.shown(96, "b{size:1}", "a<span></span><img><br><input><button></button>b");
        House.due("img", h.box(5), "4 0 8 8");
        House.due("input, button", h.box(7) + ", " + h.box(8), "0 8 24 11, 24 8 4 11");
        House.due("WORDS", h.places(), "0,1 28,12");
    }

    static void blanksBetween() {
        House.says(23, "with BLANKS between it and the ITEM before it on its LINE one is 3 s further on (its own s); LINES break between any two.");
        places(96, "b{size:2}", "a <b>b</b> c", "0,7 10,0 21,7");
        places(96, "b{size:2}", "a<b> b</b>", "0,7 10,0");
        places(96, "b{size:3}", "a<b>  \n </b>c", "0,0 4,0");
        places(96, "b{size:3}", "a<b>x \n </b>c", "0,14 4,0 19,14");
        places(96, "b{size:1}", "a<b>b</b>c", "0,0 4,0 8,0");
        places(96, "b{size:1}", "a b<b>c</b>d e", "0,0 7,0 11,0 15,0 22,0");
        places(20, "b{size:1}", "aaa<b>bbb</b>", "0,0 0,7");
        House.due("a PIECE by its own size", House.shown(96, "img{size:3}", "a <img>").box(4), "13 0 8 8");
        House.due("a WORD behind a PIECE", House.shown(96, "img{size:3}", "<img> a").places(), "11,1");
        House.due("a BLANK in what is not laid", House.shown(96, ".n{display:none}", "a<i class=n> x </i>b<button> y </button>c").places(), "0,4 4,4 16,4");
    }

    static void whatIsLeft() {
        House.says(23, "The 3 s of a blank count when an ITEM is to go into what is left;");
        places(23, "b{size:1}", "aaa aa", "0,0 15,0");
        places(22, "b{size:1}", "aaa aa", "0,0 0,7");
        places(20, "b{size:1}", "aaa<b>aa</b>", "0,0 12,0");
        places(26, "b{size:2}", "aaa <b>a</b>", "0,7 18,0");
        places(25, "b{size:2}", "aaa <b>a</b>", "0,0 0,7");
        places(20, "b{size:1}", "aaaaa", "0,0");
        places(20, "b{size:1}", "aaaaa a", "0,0 0,7");
    }

    static void theNextLine() {
        House.says(23, NEXT_LINE);
        places(20, "b{size:3}", "<b>a</b> aaaa a", "0,0 0,21 0,28");
        places(20, "b{size:1}", "aa aaaaaa a", "0,0 0,7 0,14");
        House h = House.shown(20, "img{height:30}", "a<img>aaa");
        House.due("its end is that of its highest", h.it.word(1, 4), 30);
        House.due("no blank ahead of a LINE", House.shown(20, "b{size:1}", "aaaa aaaa").places(), "0,0 0,7");
    }

    static void widerThanItsLine() {
        House.says(23, "without any it is put all the same.");
        places(20, "b{size:1}", "aaaaaa", "0,0");
        places(20, "b{size:1}", "aaaaaa aaaaaa", "0,0 0,7");
        places(20, "p{padding:20;margin:0}", "<p>a b</p>", "20,20 20,27");
        House.due("an img", House.shown(20, "img{width:96}", "<img><img>").box(4), "0 8 96 8");
    }

    static void br() {
        House.says(23, "A br ends the LINE (one that has nothing is 7 s high by its size).");
        places(40, "b{size:1}", "a<br>b", "0,0 0,7");
        places(40, "b{size:1}", "<br>b", "0,7");
        places(40, "b{size:1}", "a<br><br>b", "0,0 0,14");
        places(40, "br{size:3}", "<br>b", "0,21");
        places(40, "br{size:3}", "a<br>b", "0,0 0,7");
        places(40, "b{size:2}", "<b><br></b>b", "0,14");
        places(40, "i{float:left;width:5;height:7}", "<i></i><br>b", "0,7");
        places(40, "i{float:left;width:5;height:8}", "<i></i><br>b", "5,7");
        House.due("at the end", House.shown(40, "b{size:1}", "a<br>").it.box(0, 3), 7);
        House.due("twice at the end", House.shown(40, "b{size:1}", "a<br><br>").it.box(0, 3), 14);
        House.due("of display none", House.shown(40, "br{display:none}", "a<br>b").places(), "0,0 4,0");
        House.due("a LINE of an ITEM that is 0 high and wide has one",
                House.shown(40, "img{width:0;height:0}", "<img><br>b").places(), "0,0");
    }

    static void lowerEdge() {
        House.says(23, "A LINE is as high as its highest ITEM; they stand on its lower edge.");
        places(96, "b{size:3}i{size:2}", "a<b>b</b><i>c</i>", "0,14 4,0 16,7");
        House h = House.shown(96, "img{height:3}", "a<img><input>");
        House.due("a WORD", h.it.word(0, 4), 4);
        House.due("an img", h.box(4), "4 8 8 3");
        House.due("an input", h.box(5), "12 0 24 11");
        House.due("the LINE", h.it.box(0, 3), 11);
    }

    static void align() {
        House.says(23, "By align of the BLOCK 0, the half (down) or all of what is left of the LINE is ahead of its first ITEM.");
        places(21, "div{align:left}", "aa", "0,0");
        places(21, "div{align:center}", "aa", "6,0");
        places(22, "div{align:center}", "aa", "7,0");
        places(21, "div{align:right}", "aa", "13,0");
        places(20, "div{align:center}", "aaaaa", "0,0");
        places(20, "div{align:right}", "aaa aaa", "8,0 8,7");
        places(20, "div{align:right}b{align:left}", "<b>aa</b>", "12,0");
        House.due("PIECES and WORDS", House.shown(40, "div{align:right}", "a<img> b").box(4) + " " + House.shown(40, "div{align:right}", "a<img> b").places(), "25 0 8 8 21,1 36,1");
        places(40, "div{align:right}i{float:right;width:10;height:7;align:left}", "<i>x</i>aa<br>bb", "30,0 22,0 32,7");
        House.says(23, "what is left is 0 at least for align.");
        places(20, "div{align:center}", "aaaaaa", "0,0");
        places(20, "div{align:right}", "aaaaaa", "0,0");
    }

    // ---- LINES beside FLOATS

    static void besideFloats() {
        House.says(23, AT_Y);
        String sheet = ".l{float:left;width:5;height:%}.r{float:right;width:5;height:%}.m{margin:1}";
        places(40, sheet.replace("%", "7"), "<i class=l></i>a<br>b", "5,0 0,7");
        places(40, sheet.replace("%", "8"), "<i class=l></i>a<br>b", "5,0 5,7");
        places(40, sheet.replace("%", "5"), "<i class='l m'></i>a<br>b", "7,0 0,7");
        places(40, sheet.replace("%", "6"), "<i class='l m'></i>a<br>b", "7,0 7,7");
        places(40, sheet.replace("%", "0"), "<i class=l></i>a<br>b", "0,0 0,7");
        places(40, sheet.replace("%", "9"), "<i class=l></i><u class=l></u>a<br>b", "10,0 10,7");
        places(20, sheet.replace("%", "7"), "<i class=r></i>aaa a<br>b", "0,0 0,7 0,14");
        places(24, sheet.replace("%", "7"), "<i class=r></i>aaa a<br>b", "0,0 15,0 0,7");
        places(22, sheet.replace("%", "7"), "<i class='r m'></i>aaa<b>a</b>", "0,0 0,7");
        places(23, sheet.replace("%", "7"), "<i class='r m'></i>aaa<b>a</b>", "0,0 12,0");
        places(40, sheet.replace("%", "20"), "<div><i class=l></i></div>a", "0,20");
        places(40, sheet.replace("%", "20") + ".k{height:0}", "<div class=k><i class=l></i></div>a", "0,0");
    }

    static void onToTheLeastEnd() {
        House.says(23, "if nothing is on the LINE and FLOATS are AT y, y goes on to the least end of these, and it is tried again;");
        String sheet = ".l{float:left;width:10;height:10}.r{float:right;width:10;height:20}";
        String floats = "<i class=l></i><i class=r></i>";
        places(40, sheet, floats + "aaaaa", "10,0");
        places(40, sheet, floats + "aaaaaa", "0,10");
        places(40, sheet, floats + "aaaaaaa.", "0,10");
        places(40, sheet, floats + "aaaaaaaa", "0,20");
        places(40, sheet, floats + "aaaaaaaaaaaa", "0,20");
        places(40, sheet, floats + "a aaaaaaaa", "10,0 0,20");
        places(40, sheet, floats + "a<br>aaaaaaaa", "10,0 0,20");
        House.due("the LINE it stands on goes on from there", House.shown(40, sheet, floats + "aaaaaa a").places(), "0,10 0,17");
    }

    // ---- FLOATS

    static void floatsWidth() {
        House.says(22, "A FLOAT: WIDTH that told, else the lesser one of its text in one line, with border and padding, and the INNER width without its margins; at least border and padding;");
        box(40, "i{float:left;width:0}", "<i>a</i>", 3, "0 0 0 7");
        box(20, "i{float:left;width:96}", "<i>a</i>", 3, "0 0 96 7");
        box(40, "i{float:left;width:33%}", "<i>a</i>", 3, "0 0 13 7");
        box(40, "i{float:left;width:3;border:3}", "<i></i>", 3, "0 0 6 6");
        box(40, "i{float:left}", "<i>aa b</i>", 3, "0 0 15 7");
        box(40, "i{float:left;padding:1;border:1}", "<i>a</i>", 3, "0 0 8 11");
        box(20, "i{float:left}", "<i>aaaaa</i>", 3, "0 0 20 7");
        box(20, "i{float:left}", "<i>aaa aaa</i>", 3, "0 0 20 14");
        box(20, "i{float:left;margin:2}", "<i>aaaa a</i>", 3, "2 2 16 14");
        box(20, "i{float:left;margin:20}", "<i>a</i>", 3, "20 20 0 7");
        box(20, "i{float:left;margin:20;border:3}", "<i>a</i>", 3, "20 20 6 13");
        box(40, "i{float:left}", "<i></i>", 3, "0 0 0 0");
    }

    static void itWaits() {
        House.says(22, "If its LINE has an ITEM, it waits for the LINE's end, else it is put at once, at the LINE's y,");
        String sheet = "i{float:left;width:5;height:9}b{size:2}";
        House h = House.shown(40, sheet, "<i></i>aa");
        House.due("at once", h.box(3) + " " + h.places(), "0 0 5 9 5,0");
        h = House.shown(40, sheet, "aa<i></i>bb<br>cc");
        House.due("behind its LINE", h.box(4) + " " + h.places(), "0 7 5 9 0,0 8,0 5,7");
        h = House.shown(40, sheet, "aa<i></i><b>bb</b><br>cc");
        House.due("whose end comes later", h.box(4) + " " + h.places(), "0 14 5 9 0,7 8,0 5,14");
        h = House.shown(40, sheet, "aa<i></i>");
        House.due("behind the last LINE", h.box(4) + " " + h.it.box(0, 3), "0 7 5 9 16");
        h = House.shown(40, sheet, "aa<br><i></i>bb");
        House.due("behind a br", h.box(5) + " " + h.places(), "0 7 5 9 0,0 5,7");
        h = House.shown(40, sheet, "aa<i></i><i></i>bb<p>c</p>");
        House.due("two of them", h.box(4) + " " + h.box(5), "0 7 5 9 5 7 5 9");
        House.due("a BLOCK behind them", h.it.box(7, 1), 16);
        h = House.shown(40, sheet, "<span></span><i></i>a");
        House.due("an ELEMENT is no ITEM", h.box(4) + " " + h.places(), "0 0 5 9 5,0");
    }

    static void notAboveAnEarlierOne() {
        House.says(22, "but not above an earlier FLOAT's y (all with margins):");
        String sheet = ".a{float:left;width:30;height:10}.b{float:left;width:20;height:5}.c{float:right;width:5;height:5}.m{margin:2}";
        House h = House.shown(40, sheet, "<i class=a></i><i class=b></i><i class=c></i>aa");
        House.due("the second below the first", h.box(4), "0 10 20 5");
        House.due("the third not above it", h.box(5), "35 10 5 5");
        House.due("the LINE stays", h.places(), "30,0");
        h = House.shown(44, sheet, "<i class=a></i><i class='b m'></i><i class=c></i>");
        House.due("with a margin", h.box(4), "2 12 20 5");
        House.due("not above its margin", h.box(5), "39 10 5 5");
    }

    static void whetherItGoesIn() {
        House.says(22, "if it goes (with margins) into what the LINE is there wide; else y goes on to the least end of FLOATS AT it, and so on; with none it is put all the same.");
        String sheet = ".l{float:left;width:20;height:10}.m{margin:1}.n{float:left;width:18;height:4}";
        box(40, sheet, "<i class=l></i><i class=l></i>", 4, "20 0 20 10");
        box(39, sheet, "<i class=l></i><i class=l></i>", 4, "0 10 20 10");
        box(40, sheet, "<i class=l></i><i class='n m'></i>", 4, "21 1 18 4");
        box(39, sheet, "<i class=l></i><i class='n m'></i>", 4, "1 11 18 4");
        sheet = ".l{float:left;width:15;height:10}.r{float:right;width:15;height:20}.w{float:left;width:%;height:5}";
        String floats = "<i class=l></i><i class=r></i><i class=w></i>";
        box(40, sheet.replace("%", "10"), floats, 5, "15 0 10 5");
        box(40, sheet.replace("%", "11"), floats, 5, "0 10 11 5");
        box(40, sheet.replace("%", "25"), floats, 5, "0 10 25 5");
        box(40, sheet.replace("%", "26"), floats, 5, "0 20 26 5");
        box(40, sheet.replace("%", "40"), floats, 5, "0 20 40 5");
        box(40, sheet.replace("%", "41"), floats, 5, "0 20 41 5");
        box(20, ".r{float:right;width:30;height:5}", "<i class=r></i>", 3, "-10 0 30 5");
    }

    static void leftAndRight() {
        House.says(22, "Left ones stand at the left edge there, right ones at the right.");
        String sheet = "p{margin:0;padding:2}.l{float:left}.r{float:right}i{width:5;height:5;margin:1}";
        House h = House.shown(40, sheet, "<p><i class=l></i><i class=r></i><i class=l></i><i class=r></i></p>");
        House.due("left", h.box(4), "3 3 5 5");
        House.due("right", h.box(5), "32 3 5 5");
        House.due("left of the second", h.box(6), "10 3 5 5");
        House.due("right of the second", h.box(7), "25 3 5 5");
    }

    static void laidLikeABlock() {
        House.says(22, "it is laid like a BLOCK (TOP and BOTTOM not JOINED with anything outside).");
        House h = House.shown(40, "i{float:left;width:20}p{margin:4}", "<div><i><p>a</p></i></div>b");
        House.due("the FLOAT", h.box(4), "0 0 20 15");
        House.due("what is in it", h.box(5), "4 4 12 7");
        House.due("what is around it", h.box(3), "0 0 40 15");
        h = House.shown(40, "i{float:left;width:20;height:3;padding:1}", "<i>a a a a</i>b");
        House.due("a height told", h.box(3), "0 0 20 3");
        House.due("its LINES", h.places(), "1,1 8,1 15,1 1,8 20,0");
    }

    static void endWithMargin() {
        House.says(22, "The end of a FLOAT is with its margin wherever it counts.");
        House h = House.shown(40, "i{float:left;width:5;height:5;margin:2}", "<i></i>");
        House.due("the height of what it lies in", h.it.box(0, 3), 9);
        h = House.shown(20, "i{float:left;width:10;height:5;margin:2}", "<i></i><i></i>");
        House.due("another one below", h.box(4), "2 11 10 5");
        places(20, "i{float:left;width:10;height:5;margin:2}", "<i></i>aaa", "0,9");
    }

    // ---- TEXT IN ONE LINE

    static void textInOneLine() {
        House.says(22, "TEXT IN ONE LINE: the widths of all bytes of all TEXTS in it (whatever their display), in order, each run of BLANKS as one of 3 s, none at the begin and end; all by the size s of that ELEMENT whose text it is (also in THE PICTURE).");
        String sheet = "button{border:0;padding:0}b{size:3}.n{display:none}";
        String[][] rows = {
            {"", "0"}, {" a ", "4"}, {"a  \n b", "11"}, {"a <b> b</b>", "11"}, {" <b> a</b> b ", "11"}, {"a<b class=n>b</b>", "8"}, {"a<b>mi</b>", "11"},
            {"a<b></b>b", "8"}, {"a<p>b</p>c", "12"}, {"<b>a</b> <b>b</b>", "8"}, {"a<br>b", "8"}, {"<style>a b</style>", "11"},
        };
        for (String[] row : rows) {
            House.due("button of [" + row[0] + "]", House.shown(96, sheet, "<button>" + row[0] + "</button>").it.box(3, 2), Integer.parseInt(row[1]));
        }
        box(96, "button{size:3;border:0;padding:0}", "<button>a b</button>", 3, "0 0 33 21");
        box(96, "i{float:left;size:2}b{size:1}", "<i>a <b>b</b></i>", 3, "0 0 22 14");
    }

    // ---- FLEX

    static void flexSideBySide() {
        House.says(22, "FLEX: its ELEMENTS that have not display none (TEXTS and br are left out) stand side by side,");
        House h = House.shown(40, ".f{display:flex}.n{display:none}", "<div class=f>t<b>a</b><br><i class=n>b</i>u<p>c</p></div>");
        House.due("an inline one", h.box(5), "0 0 4 7");
        House.due("br", h.it.box(7, 0), -1000);
        House.due("of display none", h.it.box(8, 0), -1000);
        House.due("a p", h.box(11), "6 2 4 7");
        House.due("no WORD of its TEXTS", h.places(), "0,0 6,2");
        House.due("nothing in it", House.shown(40, ".f{display:flex}", "<div class=f></div>").box(3), "0 0 40 0");
        House.due("a TEXT alone", House.shown(40, ".f{display:flex}", "<div class=f>t<br></div>").box(3), "0 0 40 0");
    }

    static void flexPieces() {
        House.says(22, "img, input, button as wide and high as PIECES, others each laid like a BLOCK, each with its margin around, from the INNER left edge at the INNER y;");
        House h = House.shown(40, ".f{display:flex;padding:2;border:1}.m{margin:3}", "<div class=f><img class=m><input><button>a</button><b class=m>a</b><hr></div>");
        House.due("img", h.box(4), "6 6 8 8");
        House.due("input", h.box(5), "17 3 24 11");
        House.due("button", h.box(6), "41 3 8 11");
        House.due("b", h.box(8), "52 6 4 7");
        House.due("hr", h.box(10), "59 3 2 2");
        House.due("the FLEX", h.box(3), "0 0 40 20");
    }

    static void flexWidths() {
        House.says(22, "WIDTH that told, else as its text in one line with border and padding. HEIGHT: that told, else the highest one with its margins.");
        House h = House.shown(40, ".f{display:flex;padding:4}b{width:50%}", "<div class=f><b>a</b></div>");
        House.due("the half of 32", h.box(4), "4 4 16 7");
        h = House.shown(40, ".f{display:flex}b{width:0;padding:2}", "<div class=f><b>a</b></div>");
        House.due("at least its padding", h.box(4), "0 0 4 11");
        h = House.shown(20, ".f{display:flex}b{padding:1;border:1}", "<div class=f><b>aaa aaa</b><b></b></div>");
        House.due("its text, wider than the FLEX", h.box(4), "0 0 31 11");
        House.due("no text", h.box(6), "31 0 4 4");
        h = House.shown(40, ".f{display:flex;height:5}b{margin:2}", "<div class=f><b>a</b></div>");
        House.due("a height told", h.box(3), "0 0 40 5");
        h = House.shown(40, ".f{display:flex;height:0;border:1}b{margin:2}", "<div class=f><b>a</b></div>");
        House.due("at least its border", h.box(3), "0 0 40 2");
        h = House.shown(40, ".f{display:flex}b{margin:20}i{margin:0;height:46}", "<div class=f><b>a</b><i></i></div>");
        House.due("the highest with its margins", h.box(3), "0 0 40 47");
        h = House.shown(40, ".f{display:flex}b{margin:20}i{margin:0;height:48}", "<div class=f><b>a</b><i></i></div>");
        House.due("another is higher", h.box(3), "0 0 40 48");
    }
}
