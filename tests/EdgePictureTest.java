/** Promises 24 point, 25 top, and what Part VII says of THE PICTURE: its edges and the points beside them. */
public final class EdgePictureTest {
    private static final String TEXT_IN_PIECES = "from the INNER's upper left corner on (from the first byte on that does not go in wholly across, nothing; a blank is 3 s wide in both, and shows nothing);";

    public static void main(String[] args) throws ReflectiveOperationException {
        House.run(EdgePictureTest.class);
    }

    /** Points row by row: . for 0, # for 63, letters for 1 and so on. */
    private static String rows(House h, int x, int y, int columns, int lines) {
        StringBuilder all = new StringBuilder();
        for (int j = 0; j < lines; j++) {
            all.append(j == 0 ? "" : "/");
            for (int i = 0; i < columns; i++) {
                int c = h.it.point(x + i, y + j);
                all.append(c == -1 ? '!' : c == 0 ? '.' : c == 63 ? '#' : (char) ('a' + c - 1));
            }
        }
        return all.toString();
    }

    /** The same for one GLYPH, by the document's formula. */
    private static String glyph(int c, int size) {
        int wide = "ilj.,':;!|".indexOf(c) >= 0 ? 2 : "mwMW@".indexOf(c) >= 0 ? 5 : 4;
        StringBuilder all = new StringBuilder();
        for (int y = 0; y < 7 * size; y++) {
            all.append(y == 0 ? "" : "/");
            for (int x = 0; x < wide * size; x++) {
                int i = x / size;
                int j = y / size - 1;
                boolean isIn = i <= wide - 2 && j >= 0 && j <= 4;
                all.append(isIn && (c * 40503 >> 3 >> (5 * i + j) % 13) % 2 == 1 ? '#' : '.');
            }
        }
        return all.toString();
    }

    private static String shown(House h, int x, int y, int c, int size) {
        int wide = "ilj.,':;!|".indexOf(c) >= 0 ? 2 : "mwMW@".indexOf(c) >= 0 ? 5 : 4;
        return rows(h, x, y, wide * size, 7 * size);
    }

    // ---- promises 24 and 25

    static void pointOfNone() {
        House.says(24, "A point of THE PICTURE; NONE if it is not in it.");
        House h = House.shown(20, "div{background:5}", "a");
        House.due("the first", h.it.point(0, 0), 5);
        House.due("the last", h.it.point(19, 6), 5);
        int[][] beside = {
            {-1, 0}, {0, -1}, {20, 0}, {0, 7}, {19, 7}, {20, 6}, {-1, -1}, {20, 7}, {Integer.MAX_VALUE, 0}, {0, Integer.MAX_VALUE},
            {Integer.MIN_VALUE, 0}, {0, Integer.MIN_VALUE}, {Integer.MIN_VALUE, Integer.MAX_VALUE},
        };
        for (int[] point : beside) {
            House.due("point " + point[0] + ", " + point[1], h.it.point(point[0], point[1]), -1);
        }
        h.it.screen(96);
        House.due("the last of a wide one", h.it.point(95, 6), 5);
        House.due("beside it", h.it.point(96, 6), -1);
        House.due("none where nothing has a height", new House().it.point(0, 0), -1);
    }

    static void topOfNone() {
        House.says(25, "The NODE ON TOP of a point; NONE if nothing is painted there, or it is not in THE PICTURE.");
        House h = House.shown(20, "p{margin:1}", "<p>a</p>");
        House.due("the first", h.it.top(0, 0), 0);
        House.due("the last", h.it.top(19, 8), 0);
        int[][] beside = {
            {-1, 0}, {0, -1}, {20, 0}, {0, 9}, {Integer.MAX_VALUE, 0}, {0, Integer.MAX_VALUE}, {Integer.MIN_VALUE, 0}, {0, Integer.MIN_VALUE},
        };
        for (int[] point : beside) {
            House.due("top " + point[0] + ", " + point[1], h.it.top(point[0], point[1]), -1);
        }
        House.due("none where nothing has a height", new House().it.top(0, 0), -1);
    }

    static void fourHundred() {
        House.says(24, "THE PICTURE is as high as THE ROOT's BOX, at most 400; a point has 0 .. 63; 0 where nothing is painted.");
        int[][] rows = {{15, 399}, {16, 400}, {17, 400}, {96, 400}};
        for (int[] row : rows) {
            House h = House.shown(20, "div{background:63}p{margin:0;height:96}.m{height:" + row[0] + "}", "<p></p><p></p><p></p><p></p><p class=m></p>");
            House.due("THE ROOT's BOX", h.it.box(0, 3), 384 + row[0]);
            House.due("THE PICTURE's height", h.it.count(14), row[1]);
            House.due("its last row", h.it.point(0, row[1] - 1), 63);
            House.due("the one below", h.it.point(0, row[1]), -1);
            House.due("on top of its last row", h.it.top(0, row[1] - 1), row[1] - 1 < 384 ? 6 : 7);
            House.due("on top below", h.it.top(0, row[1]), -1);
            House.due("a press below", h.it.press(0, row[1]), -1);
        }
        House h = House.shown(20, "p{height:2;margin:0}i{display:block;background:0;height:1}.k{background:63}", "<p></p><p class=k><i></i></p>");
        House.due("0 where nothing is, 0 that is told, 63", rows(h, 0, 0, 1, 4), "./././#");
    }

    // ---- BOXES

    static void boxes() {
        House.says(24, "BOXES: BACKGROUND (if it has one) over the whole BOX, then the border, as wide as told, in color;");
        House h = House.shown(20, "p{margin:1;width:6;height:5;border:1;background:1;color:2}", "<p></p>");
        House.due("a border of 1", rows(h, 0, 0, 8, 7), "......../.bbbbbb./.baaaab./.baaaab./.baaaab./.bbbbbb./........");
        h = House.shown(20, "p{margin:1;width:6;height:5;border:2;background:1;color:2}", "<p></p>");
        House.due("a border of 2", rows(h, 0, 0, 8, 7), "......../.bbbbbb./.bbbbbb./.bbaabb./.bbbbbb./.bbbbbb./........");
        h = House.shown(20, "p{margin:1;width:6;height:6;border:3;background:1;color:2}", "<p></p>");
        House.due("a border that is all", rows(h, 0, 0, 8, 8), "......../" + ".bbbbbb./".repeat(6) + "........");
        h = House.shown(20, "p{margin:1;width:6;height:5;border:1;color:2}", "<p></p>");
        House.due("no BACKGROUND", rows(h, 0, 0, 8, 7), "......../.bbbbbb./.b....b./.b....b./.b....b./.bbbbbb./........");
        h = House.shown(20, "p{margin:1;width:6;height:5;padding:1;background:1}", "<p></p>");
        House.due("padding is of the BOX", rows(h, 0, 0, 8, 7), "......../.aaaaaa./.aaaaaa./.aaaaaa./.aaaaaa./.aaaaaa./........");
        h = House.shown(20, "p{margin:1;width:0;height:0;background:1}", "<p></p>a");
        House.due("0 by 0 is nothing", rows(h, 0, 0, 4, 2), "..../....");
        h = House.shown(20, "b{border:1;background:1}", "<b>a</b>");
        House.due("inline ones have no BOX", h.it.point(0, 0), 0);
    }

    static void eachAheadOfWhatLiesInIt() {
        House.says(24, "Painted are, NODE by NODE of what has a place, each ahead of what lies in it,");
        House h = House.shown(20, "div{background:1}p{margin:0;height:3;background:2}b{float:left;width:2;height:5;background:3}i{display:block;width:3;background:4;height:1}", "<b></b><p><i></i></p>");
        House.due("FLOAT, BLOCK, what is in that", rows(h, 0, 4, 4, 5), "ccaa/dddb/bbbb/bbbb/!!!!");
        h = House.shown(20, ".k{height:2}p{margin:0;height:4;background:2}", "<div class=k><p></p></div><div class=k></div>");
        House.due("what goes out of its BOX", rows(h, 0, 0, 1, 4), "b/b/b/b");
        h = House.shown(20, ".k{height:2}p{margin:0;height:4;background:2}.m{background:3;height:2}", "<div class=k><p></p></div><div class=m></div>");
        House.due("the next one over it", rows(h, 0, 0, 1, 4), "b/b/c/c");
    }

    static void img() {
        House.says(24, "PIECES: img all in color;");
        House h = House.shown(20, "img{width:2;height:2;color:2;border:1;background:1}", "<img>");
        House.due("no border, no BACKGROUND", rows(h, 0, 0, 3, 2), "bb./bb.");
        h = House.shown(20, "img{width:0;color:2}", "<img>");
        House.due("0 wide", rows(h, 0, 0, 1, 8), "./././././././.");
    }

    static void likeBoxes() {
        House.says(24, "input and button: like BOXES, then the input's VALUE (below),");
        House h = House.shown(20, "input{width:6;border:1;background:1;color:2}", "<input>");
        House.due("an input", rows(h, 0, 0, 7, 12), "bbbbbb./" + "baaaab./".repeat(9) + "bbbbbb./!!!!!!!");
        h = House.shown(20, "button{border:1;padding:1;background:1;color:2}", "<button></button>");
        House.due("a button", rows(h, 0, 0, 5, 12), "bbbb./" + "baab./".repeat(9) + "bbbb./!!!!!");
        h = House.shown(20, "input{width:4;border:3;background:1;color:2}", "<input value=a>");
        House.due("a border that is all", rows(h, 0, 0, 5, 11), ("bbbb./").repeat(10) + "bbbb.");
        h = House.shown(20, "input{border:0}button{border:0}", "<input><button></button>");
        House.due("nothing of them shows", rows(h, 0, 4, 20, 1), "....................");
    }

    // ---- texts in PIECES

    static void valueGoesInWholly() {
        House.says(24, TEXT_IN_PIECES);
        House h = House.shown(20, "input{width:10}", "<input value=ab>");
        House.due("a", shown(h, 1, 1, 'a', 1), glyph('a', 1));
        House.due("b goes in just", shown(h, 5, 1, 'b', 1), glyph('b', 1));
        h = House.shown(20, "input{width:9;border:0}", "<input value=abi>");
        House.due("a third byte is one too much", rows(h, 8, 0, 1, 7), "././././././.");
        h = House.shown(20, "input{width:9}", "<input value=ab>");
        House.due("one less: a alone", rows(h, 5, 2, 3, 5), ".../.../.../.../...");
        h = House.shown(20, "input{width:8;border:0}", "<input value=ami>");
        House.due("from the first on that does not, nothing", rows(h, 4, 0, 4, 7), "..../..../..../..../..../..../....");
        h = House.shown(20, "input{width:0;border:0}", "<input value=a>");
        House.due("no room at all", rows(h, 0, 0, 4, 7), "..../..../..../..../..../..../....");
    }

    static void blanksInValues() {
        House.says(24, TEXT_IN_PIECES);
        House h = House.shown(20, "input{border:0;width:18}", "<input value=' a  b'>");
        House.due("a behind one", shown(h, 3, 0, 'a', 1), glyph('a', 1));
        House.due("b behind two", shown(h, 13, 0, 'b', 1), glyph('b', 1));
        House.due("they show nothing", rows(h, 7, 0, 6, 7), "....../....../....../....../....../....../......");
        h = House.shown(20, "input{border:0;width:10}", "<input value='a b'>");
        House.due("b has no room", rows(h, 7, 0, 4, 7), "..../..../..../..../..../..../....");
        h = House.shown(20, "input{border:0;width:6}", "<input value='a i'>");
        House.due("a blank that has none, and what is behind it", rows(h, 4, 0, 6, 7), "....../....../....../....../....../....../......");
    }

    static void sBelowTheUpperEdge() {
        House.says(24, "An input's VALUE and a button's text stand s below the upper edge of the INNER rectangle, as GLYPHS on a LINE do.");
        House h = House.shown(40, "input{border:1;padding:2;size:2}", "<input value=a>");
        House.due("an input", shown(h, 3, 3, 'a', 2), glyph('a', 2));
        h = House.shown(40, "button{border:1;padding:2;size:2}", "<button>a</button>");
        House.due("a button", shown(h, 3, 3, 'a', 2), glyph('a', 2));
        House.due("its rim", h.it.point(0, 10), 63);
        House.due("within its rim", h.it.point(1, 10), 0);
    }

    static void buttonsText() {
        House.says(24, "the button's text (its text in one line),");
        House h = House.shown(40, "button{border:0;padding:0}b{size:3;color:1}.n{display:none}", "<button> a\n<b> b</b><i class=n>c</i></button>");
        House.due("a", shown(h, 0, 0, 'a', 1), glyph('a', 1));
        House.due("b behind one blank, by the button's size and color", shown(h, 7, 0, 'b', 1), glyph('b', 1));
        House.due("c whatever its display", shown(h, 11, 0, 'c', 1), glyph('c', 1));
        House.due("the blank", rows(h, 4, 0, 3, 7), ".../.../.../.../.../.../...");
    }

    static void eachHasItsOwn() {
        House.says(24, TEXT_IN_PIECES);
        House h = House.shown(40, "button{border:0;padding:0}input{border:1;padding:1;width:12}p{margin:3}", "<p>i<button>ab</button><button> c</button><br>i<input value=d></p>");
        House.due("the first button", shown(h, 5, 3, 'a', 1) + shown(h, 9, 3, 'b', 1), glyph('a', 1) + glyph('b', 1));
        House.due("the second", shown(h, 13, 3, 'c', 1), glyph('c', 1));
        House.due("an input below, beside a WORD", h.box(11) + " " + shown(h, 7, 12, 'd', 1), "5 10 12 11 " + glyph('d', 1));
    }

    static void bytesThatWent() {
        House.says(24, "then the input's VALUE (below),");
        House h = House.shown(40, "input{border:0}", "<input value=am>");
        h.it.press(1, 1);
        h.it.key(8);
        House.due("a stays", shown(h, 0, 0, 'a', 1), glyph('a', 1));
        House.due("m went", rows(h, 4, 0, 5, 7), "...../...../...../...../...../...../.....");
        h.it.key('w');
        House.due("w came", shown(h, 4, 0, 'w', 1), glyph('w', 1));
    }

    static void checkedOnes() {
        House.says(24, "a checked one (below) has all of its INNER in color, and no VALUE;");
        House h = House.shown(20, "input{width:8;border:1;padding:1;color:2;background:1}", "<input type=check checked value=m>");
        String rim = "bbbbbbbb/baaaaaab/";
        House.due("checked", rows(h, 0, 0, 8, 11), rim + "babbbbab/".repeat(7) + "baaaaaab/bbbbbbbb");
        h = House.shown(20, "input{width:8;border:1;padding:1;color:2;background:1}", "<input type=check>");
        House.due("not checked", rows(h, 0, 0, 8, 11), rim + "baaaaaab/".repeat(7) + "baaaaaab/bbbbbbbb");
        h = House.shown(20, "input{width:4;border:1;padding:1;color:2;background:1}", "<input type=check checked>");
        House.due("an INNER of 0", rows(h, 0, 0, 4, 4), "bbbb/baab/baab/baab");
        h = House.shown(20, "input{width:8;border:0}", "<input checked value=a>");
        House.due("checked, but no check", shown(h, 0, 0, 'a', 1), glyph('a', 1));
    }

    // ---- GLYPHS

    static void glyphs() {
        House.says(24, "A GLYPH of byte c, size s: its point (i, j), i from 0 to its width by 1 less 2, j from 0 to 4, is on if (c * 40503 >> 3 >> (5 i + j) % 13) is odd; each point s by s, from the WORD's left edge and s below its upper one.");
        for (char c = 33; c <= 126; c++) {
            House h = new House();
            h.page(c == '<' ? "&lt;" : c == '&' ? "&amp;" : "" + c);
            House.due("GLYPH " + c, shown(h, 0, 0, c, 1), glyph(c, 1));
        }
        for (int size = 2; size <= 3; size++) {
            for (char c : "im~!".toCharArray()) {
                House h = House.shown(20, "b{size:" + size + "}", "<b>" + c + "</b>");
                House.due("GLYPH " + c + " of size " + size, shown(h, 0, 0, c, size), glyph(c, size));
            }
        }
        House h = House.shown(40, "p{margin:3}", "<p>a mi</p>");
        House.due("from the WORD's left edge", shown(h, 10, 3, 'm', 1), glyph('m', 1));
        House.due("one behind the other", shown(h, 15, 3, 'i', 1), glyph('i', 1));
        h = House.shown(40, "b{size:2}", "a<br>b cd<br><b>e</b>");
        House.due("on the second LINE", shown(h, 0, 7, 'b', 1), glyph('b', 1));
        House.due("in its second WORD", shown(h, 11, 7, 'd', 1), glyph('d', 1));
        House.due("on the third", shown(h, 0, 14, 'e', 2), glyph('e', 2));
    }

    static void wordsInColor() {
        House.says(24, "WORDS in color.");
        House h = House.shown(20, "div{color:0;background:63}b{color:1}", "a<b>a</b>");
        House.due("color 0 over 63", h.it.point(0, 2), 0);
        House.due("where it is off", h.it.point(0, 1), 63);
        House.due("its own color", h.it.point(4, 2), 1);
    }

    // ---- ON TOP

    static void onTop() {
        House.says(25, "ON TOP of a point is the last BOX or ITEM painted there (each over all of its rectangle, whatever it shows): its NODE (of a WORD its TEXT).");
        House h = House.shown(20, "p{margin:1;padding:1}", "<p>a <b>i</b></p>");
        House.due("the margin", h.it.top(0, 1), 0);
        House.due("the BOX's corner", h.it.top(1, 1), 3);
        House.due("the WORD's corner", h.it.top(2, 2), 4);
        House.due("its last point", h.it.top(5, 8), 4);
        House.due("the blank", h.it.top(6, 5), 3);
        House.due("the WORD in b", h.it.top(9, 2), 6);
        House.due("its last column", h.it.top(10, 8), 6);
        House.due("beside it", h.it.top(11, 8), 3);
        House.due("below it", h.it.top(9, 9), 3);
        House.due("the BOX's last point", h.it.top(18, 9), 3);
        House.due("behind that", h.it.top(19, 9), 0);
        h = House.shown(20, "img{width:0}input{width:10}p{margin:0;height:0}", "<img><input><p></p>");
        House.due("0 wide is nowhere", h.it.top(0, 5), 4);
        h = House.shown(40, "b{size:1}", "<button>a<i>b</i></button>");
        House.due("what lies in a button is not laid", h.it.top(6, 5), 3);
        h = House.shown(20, ".k{height:2}.m{height:7}", "<div class=k>a</div><div class=m></div>");
        House.due("what is painted later", h.it.top(0, 2), 5);
        House.due("what is painted earlier", h.it.top(0, 1), 4);
    }
}
