/** Promises 21 screen, 22 box, 23 word, and what Part VI says of BLOCKS and their margins: at their edges. */
public final class EdgeLayoutTest {
    private static final String JOIN = "MARGINS JOIN: TOP of a BLOCK is its margin, or TOP of the first thing in it, if that is greater, that thing a BLOCK, its own border and padding 0, its display block, and it a BLOCK that lies in one of display block (not THE ROOT, no FLOAT);";

    public static void main(String[] args) throws ReflectiveOperationException {
        House.run(EdgeLayoutTest.class);
    }

    // ---- promise 21

    static void screenEdges() {
        House.says(21, "The SCREEN's width: 1; NONE if it is not 20 .. 96.");
        House h = new House();
        House.due("19", h.it.screen(19), -1);
        House.due("97", h.it.screen(97), -1);
        House.due("0", h.it.screen(0), -1);
        House.due("-20", h.it.screen(-20), -1);
        House.due("far", h.it.screen(Integer.MAX_VALUE), -1);
        House.due("far below", h.it.screen(Integer.MIN_VALUE), -1);
        House.due("it stays", h.it.box(0, 2), 48);
        House.due("20", h.it.screen(20), 1);
        House.due("the least", h.it.box(0, 2), 20);
        House.due("21", h.it.screen(21), 1);
        House.due("one more", h.it.box(0, 2), 21);
        House.due("95", h.it.screen(95), 1);
        House.due("96", h.it.screen(96), 1);
        House.due("the greatest", h.it.box(0, 2), 96);
        House.due("97 again", h.it.screen(97), -1);
        House.due("it stays again", h.it.box(0, 2), 96);
        h.visit("/a");
        House.due("over a VISIT, too", h.it.box(0, 2), 96);
    }

    static void screenLaysAnew() {
        House.says(21, "the SCREEN is as wide as told (20 .. 96, 48 at first).");
        House h = new House();
        h.page("aa aa aa aa aa aa");
        House.due("48", h.places(), "0,0 11,0 22,0 33,0 0,7 11,7");
        h.it.screen(20);
        House.due("20", h.places(), "0,0 11,0 0,7 11,7 0,14 11,14");
        h.it.screen(96);
        House.due("96", h.places(), "0,0 11,0 22,0 33,0 44,0 55,0");
    }

    // ---- promise 22

    static void boxOfNone() {
        House.says(22, "-1000 if it has none (TEXTS, br, inline ones).");
        House h = House.shown(40, ".n{display:none}", "t<br><b><p>u</p></b><p class=n><img></p><button><img></button><i></i>");
        String[] what = {"", "style", "its TEXT", "a TEXT", "br", "b", "p within b", "its TEXT", "p of display none", "img within", "", "img within a button", "i"};
        for (int n = 1; n < what.length; n++) {
            for (int side = 0; side < 4 && n != 10; side++) {
                House.due(what[n] + ", " + side, h.it.box(n, side), -1000);
            }
        }
        for (int n : new int[] {-1, 13, 119, 120, Integer.MAX_VALUE, Integer.MIN_VALUE}) {
            House.due("NODE " + n, h.it.box(n, 0), -1000);
        }
        for (int side : new int[] {-1, 4, Integer.MAX_VALUE, Integer.MIN_VALUE}) {
            House.due("what " + side, h.it.box(0, side), -1000);
        }
        House.due("the button has one", h.box(10), "4 7 4 11");
    }

    static void boxOfWhatWent() {
        House.says(22, "-1000 if it has none (TEXTS, br, inline ones).");
        House h = House.shown(40, "p{margin:0}", "<p id=x>t</p><p>u</p>");
        House.due("the second", h.box(5), "0 7 40 7");
        h.script("del x");
        House.due("one that went", h.it.box(3, 0), -1000);
        House.due("the second moves up", h.box(5), "0 0 40 7");
    }

    // ---- promise 23

    static void words() {
        House.says(23, "WORDS are the runs of a TEXT's bytes that are not 10 or 32 (these are BLANKS).");
        House h = new House();
        h.page(" a\n\nb  c ");
        House.due("the first", h.word(0), "1 1 1 0 0 4 7");
        House.due("behind two 10s", h.word(1), "1 4 1 7 0 4 7");
        House.due("behind two blanks", h.word(2), "1 7 1 14 0 4 7");
        House.due("no fourth", h.it.word(3, 0), -1000);
        h.page("ab<b>cd</b>");
        House.due("a run ends with its TEXT", h.word(1), "3 0 2 8 0 8 7");
        h.page("t".repeat(400));
        House.due("the longest", h.word(0), "1 0 400 0 0 1600 7");
        h.page("a ".repeat(200));
        House.due("the 200th", h.it.word(199, 1), 398);
        House.due("no more", h.it.word(200, 1), -1000);
    }

    static void wordOfNone() {
        House.says(23, "-1000 if there is none such.");
        House h = new House();
        House.due("an empty page", h.it.word(0, 0), -1000);
        h.page("<p>a</p>b");
        House.due("the last", h.it.word(1, 0), 3);
        for (int i : new int[] {2, -1, Integer.MAX_VALUE, Integer.MIN_VALUE}) {
            House.due("WORD " + i, h.it.word(i, 0), -1000);
        }
        for (int what : new int[] {-1, 7, Integer.MAX_VALUE, Integer.MIN_VALUE}) {
            House.due("what " + what, h.it.word(0, what), -1000);
        }
        House.due("none that is not laid", House.shown(40, ".n{display:none}", "<p class=n>a</p><button>b</button>").it.word(0, 0), -1000);
    }

    static void glyphs() {
        House.says(23, "GLYPHS: a byte is 2 wide (i l j . , ' : ; ! |), 5 (m w M W @), else 4, times the size; a line of size s is 7 s high.");
        StringBuilder all = new StringBuilder();
        for (char c = 33; c <= 126; c++) {
            all.append(c == '<' ? "&lt;" : c == '&' ? "&amp;" : "" + c).append(' ');
        }
        House h = House.shown(96, "b{size:3}", "<i>" + all + "</i>");
        House big = House.shown(96, "i{size:3}", "<i>" + all + "</i>");
        for (char c = 33; c <= 126; c++) {
            int wide = "ilj.,':;!|".indexOf(c) >= 0 ? 2 : "mwMW@".indexOf(c) >= 0 ? 5 : 4;
            House.due("byte " + c, h.it.word(c - 33, 5), wide);
            House.due("byte " + c + " of size 3", big.it.word(c - 33, 5), 3 * wide);
        }
        House.due("7 high", h.it.word(93, 6), 7);
        House.due("21 high", big.it.word(93, 6), 21);
    }

    // ---- BOXES

    static void innerAtLeastZeroWide() {
        House.says(22, "A BOX: x, y, width, height, with border and padding, without margin; its INNER rectangle is without these (0 wide at least).");
        House h = House.shown(40, "p{margin:3;border:1;padding:2}", "<p>a</p>");
        House.due("without margin", h.box(3), "3 3 34 13");
        House.due("its INNER", h.places(), "6,6");
        h = House.shown(20, "div{margin:9;border:3;padding:20}", "<p>a</p>");
        House.due("THE ROOT, narrower than its border and padding", h.box(0), "0 0 20 57");
        House.due("a p in an INNER of 0", h.box(3), "25 25 0 7");
        House.due("its WORD", h.places(), "25,25");
        h = House.shown(40, ".k{width:8;padding:5}.m{width:50%}", "<div class=k><div class=m></div></div>");
        House.due("at least its padding", h.box(3), "0 0 10 10");
        House.due("the half of 0", h.box(4), "5 5 0 0");
        h = House.shown(40, ".k{width:8;padding:5}.m{width:100%}", "<div class=k><div class=m></div><div></div><img class=m></div>");
        House.due("all of 0", h.box(4), "5 5 0 0");
        House.due("without margins", h.box(5), "5 5 0 0");
        House.due("of an img", h.box(6), "5 5 0 8");
    }

    static void rootsBox() {
        House.says(22, "THE ROOT's BOX begins at 0, 0, as wide as the SCREEN.");
        House h = House.shown(30, "div{width:5;margin:7}", "a");
        House.due("whatever is told", h.box(0), "0 0 30 7");
        House.due("96%", House.shown(30, "div{width:96%}", "a").box(0), "0 0 30 7");
        House.due("a height told is that", House.shown(30, "div{height:50}", "a").box(0), "0 0 30 50");
        House.due("nothing is 0 high", new House().box(0), "0 0 48 0");
    }

    static void widthOfABlock() {
        House.says(22, "WIDTH of a BLOCK: that told (of % the share of the INNER width of what it lies in, down), else that INNER width without its margins; at least its border and padding on both sides.");
        Object[][] rows = {
            {20, "width:0", 0}, {20, "width:96", 96}, {40, "width:1%", 0}, {40, "width:33%", 13}, {40, "width:100%", 40}, {96, "width:1%", 0}, {96, "width:99%", 95},
            {96, "width:100%", 96}, {20, "margin:0", 20}, {20, "margin:9", 2}, {20, "margin:10", 0}, {20, "margin:20", 0}, {40, "width:0;padding:2;border:1", 6},
            {40, "width:5;padding:2;border:1", 6}, {40, "width:6;padding:2;border:1", 6}, {40, "width:7;padding:2;border:1", 7}, {20, "margin:20;padding:20;border:3", 46},
            {40, "width:100%;margin:5", 40}, {40, "width:0;padding:20;border:3", 46},
        };
        for (Object[] row : rows) {
            House.due(row[1] + " on " + row[0], House.shown((Integer) row[0], "p{" + row[1] + "}", "<p></p>").it.box(3, 2), (Integer) row[2]);
        }
        House h = House.shown(40, ".k{padding:3;border:1}.m{width:50%}.n{width:33%}", "<div class=k><div class=m></div><div class=n></div><div></div></div>");
        House.due("50% of 32", h.it.box(4, 2), 16);
        House.due("33% of 32", h.it.box(5, 2), 10);
        House.due("all of 32", h.it.box(6, 2), 32);
    }

    static void whatIsTold() {
        House.says(22, "(A width told is that of the BOX; so is a height.) Its x: that INNER x and its margin.");
        House h = House.shown(40, ".k{padding:3;border:1}p{width:20;height:20;padding:2;border:1;margin:5}", "<div class=k><p>a</p></div>");
        House.due("the BOX", h.box(4), "9 9 20 20");
        House.due("its INNER", h.places(), "12,12");
        House.due("margins of 20", House.shown(20, "p{margin:20}", "<p></p>").box(3), "20 20 0 0");
    }

    static void whatLiesInABlock() {
        House.says(22, "What would be a FLOAT or BLOCK within an inline ELEMENT is as inline there; hr there is nothing.");
        House h = House.shown(40, "i{float:left}u{display:flex}", "<span>a<p>b</p><i>c</i><u>d</u><hr>e</span>");
        House.due("one LINE", h.places(), "0,0 4,0 8,0 12,0 16,0");
        for (int n : new int[] {3, 5, 7, 9, 11}) {
            House.due("no BOX of " + n, h.it.box(n, 0), -1000);
        }
        House.due("its display is told all the same", h.it.style(5, 0), 0);
        House.due("7 high", h.it.box(0, 3), 7);
    }

    static void floatsBlocksAndOthers() {
        House.says(22, "What lies in a BLOCK, without what has display none, is FLOATS (ELEMENTS with float), BLOCKS (ELEMENTS with display block or flex), and others: INLINE.");
        House h = House.shown(40, ".l{float:left}.b{display:block}.f{display:flex}.n{display:none}.i{display:inline}",
                "<b class=l>a</b><b class=b>b</b><b class=f><i>c</i></b><b class=n>d</b><p class=i>e</p>f");
        House.due("a FLOAT", h.box(3), "0 0 4 7");
        House.due("a block", h.box(5), "0 7 40 7");
        House.due("a flex", h.box(7), "0 14 40 7");
        House.due("none", h.it.box(10, 0), -1000);
        House.due("a p that is inline", h.it.box(12, 0), -1000);
        House.due("the LINE behind them", h.it.word(3, 4) + " " + h.it.word(4, 3), "21 4");
    }

    static void wholePoints() {
        House.says(22, "All is in whole points;");
        House h = House.shown(31, "div{align:center}p{width:33%;margin:1}", "<p></p>a");
        House.due("33% of 31", h.box(3), "1 1 10 0");
        House.due("the half of 27", h.it.word(0, 3), 13);
    }

    static void boxWhat() {
        House.says(22, "Of an ELEMENT's BOX, or PIECE, what 0: x, 1: y, 2: width, 3: height;");
        House h = House.shown(40, "p{margin:2;padding:1;width:20;height:30}img{width:5;height:6}", "<p><img></p>");
        int[][] due = {{2, 2, 20, 30}, {3, 3, 5, 6}};
        for (int n = 0; n < 2; n++) {
            for (int what = 0; what < 4; what++) {
                House.due("box(" + (3 + n) + ", " + what + ")", h.it.box(3 + n, what), due[n][what]);
            }
        }
    }

    static void wordWhat() {
        House.says(23, "Of the i-th WORD of all, in the tree's order, what 0: its TEXT, 1: at which byte of that it begins, 2: how many bytes, 3: x, 4: y, 5: width, 6: height;");
        House h = House.shown(40, "i{float:right;size:2}p{margin:3}", "<p>a  bm<i>c</i></p>d");
        House.due("the first", h.word(0), "4 0 1 3 3 4 7");
        House.due("the second", h.word(1), "4 3 2 10 3 9 7");
        House.due("that of a FLOAT stands in the tree's order", h.word(2), "6 0 1 29 10 8 14");
        House.due("the last", h.word(3), "7 0 1 0 27 4 7");
    }

    static void floatsAloneMakeLines() {
        House.says(22, "A run of INLINE things and FLOATS makes LINES (of FLOATS alone too).");
        House h = House.shown(40, "p{margin:5}i{float:left;height:2;width:2}", "<p>a</p><i></i><p>b</p>");
        House.due("LINES behind BOTTOM", h.box(5), "0 17 2 2");
        House.due("no margins meet over them", h.it.box(6, 1), 22);
        House.due("THE ROOT", h.it.box(0, 3), 34);
    }

    // ---- margins

    private static void joins(String sheet, String due) {
        House h = House.shown(40, sheet, "<div class=k><p>a</p></div>");
        House.due(sheet + ": y of the div, of the p, height of the div, of THE ROOT",
                h.it.box(3, 1) + " " + h.it.box(4, 1) + " " + h.it.box(3, 3) + " " + h.it.box(0, 3), due);
    }

    static void topIsTheGreater() {
        House.says(22, JOIN);
        joins(".k{margin:3}p{margin:2}", "3 3 7 13");
        joins(".k{margin:3}p{margin:3}", "3 3 7 13");
        joins(".k{margin:3}p{margin:4}", "4 4 7 15");
        joins(".k{margin:0}p{margin:20}", "20 20 7 47");
        joins(".k{margin:20}p{margin:0}", "20 20 7 47");
        joins("p{margin:0}", "0 0 7 7");
    }

    static void ownBorderAndPadding() {
        House.says(22, JOIN);
        joins(".k{border:1}p{margin:4}", "0 5 17 17");
        joins(".k{padding:1}p{margin:4}", "0 5 17 17");
        joins("p{margin:4;border:1;padding:1}", "4 4 11 19");
    }

    static void displayBlock() {
        House.says(22, JOIN);
        joins(".k{display:flex}p{margin:4}", "0 4 15 15");
        joins("p{margin:4;display:flex}", "4 4 0 8");
        House h = House.shown(40, ".f{display:flex}p{margin:4}", "<div class=f><div><p>a</p></div></div>");
        House.due("one that lies in a FLEX", h.box(4), "0 0 4 15");
        House.due("what is in it", h.box(5), "4 4 0 7");
        h = House.shown(40, ".f{display:flex}p{margin:4}", "<div class=f><div><div><p>a</p></div></div></div>");
        House.due("one that lies in that does", h.it.box(5, 1), 4);
        House.due("with what is in it", h.it.box(6, 1), 4);
    }

    static void notTheRootNoFloat() {
        House.says(22, "Of MARGINS JOIN: the BLOCK itself is neither THE ROOT nor a FLOAT.");
        House h = House.shown(40, "p{margin:4}", "<p>a</p>");
        House.due("in THE ROOT", h.box(3), "4 4 32 7");
        House.due("THE ROOT", h.box(0), "0 0 40 15");
        joins(".k{float:left}p{margin:4}", "0 4 15 15");
        h = House.shown(40, ".f{float:left}p{margin:4}", "<div class=f><div><p>a</p></div></div>");
        House.due("a BLOCK in a FLOAT joins with what is in it", h.it.box(4, 1) + " " + h.it.box(5, 1) + " " + h.it.box(4, 3), "4 4 7");
    }

    static void firstThing() {
        House.says(22, "TOP of the first thing in it, if that is greater, that thing a BLOCK,");
        House h = House.shown(40, "p{margin:4}", "<div>t<p>a</p></div>");
        House.due("LINES first", h.box(3), "0 0 40 18");
        House.due("its BOTTOM joins", h.it.box(0, 3), 22);
        h = House.shown(40, "p{margin:4}i{float:left}", "<div><i></i><p>a</p></div>");
        House.due("a FLOAT first", h.box(3), "0 0 40 11");
        h = House.shown(40, "p{margin:4}.n{display:none}", "<div><p class=n>x</p><p>a</p><i class=n>y</i></div>");
        House.due("what has display none is no thing", h.box(3), "0 4 40 7");
        h = House.shown(40, ".k{margin:4}", "<div class=k></div>");
        House.due("nothing in it", h.box(3), "4 4 32 0");
        House.due("both margins count", h.it.box(0, 3), 8);
        h = House.shown(40, "p{margin:4}", "<div><div><div><p>a</p></div></div></div>");
        House.due("the first of the first", h.it.box(3, 1) + " " + h.it.box(4, 1) + " " + h.it.box(5, 1) + " " + h.it.box(6, 1), "4 4 4 4");
        House.due("the last of the last", h.it.box(0, 3), 15);
    }

    static void heightTold() {
        House.says(22, "BOTTOM likewise by the last thing, if its height is not told, too.");
        joins(".k{height:0}p{margin:4}", "4 4 0 4");
        joins(".k{height:20}p{margin:4}", "4 4 20 24");
        joins(".k{height:20;margin:1}p{margin:4}", "4 4 20 25");
        House h = House.shown(40, "p{margin:4}.k{margin:1}", "<div class=k><p>a</p>t</div>");
        House.due("LINES last", h.it.box(3, 3) + " " + h.it.box(0, 3), "18 23");
    }

    static void joinedOnce() {
        House.says(22, "TOP and BOTTOM of a thing count so for it alone: that first thing's TOP has JOINED then, whichever is greater, and it stands at the INNER y; so BOTTOM.");
        House h = House.shown(40, ".k{margin:9}p{margin:4}", "<div class=k><p>a</p></div>");
        House.due("the lesser TOP counts no more", h.it.box(4, 1), 9);
        House.due("nor the lesser BOTTOM", h.it.box(0, 3), 25);
        h = House.shown(40, "p{margin:4}", "<div><p>a</p></div><div><p>b</p></div>");
        House.due("two that joined meet", h.it.box(6, 1), 15);
        House.due("in all", h.it.box(0, 3), 26);
        h = House.shown(40, "p{margin:4}", "<div><p>a</p>t<p>b</p></div>");
        House.due("the first thing's TOP alone", h.it.box(4, 1) + " " + h.it.word(1, 4) + " " + h.it.box(7, 1), "4 15 26");
    }

    static void linesOfNothingPart() {
        House.says(22, "A run of INLINE things without any ITEM makes LINES all the same (of no height): it parts margins, and is a first or last thing.");
        House h = House.shown(40, "p{margin:4}", "<p>a</p><i></i><p>b</p>");
        House.due("it parts margins", h.it.box(6, 1), 19);
        h = House.shown(40, "p{margin:4}", "<div><i></i><p>a</p><i></i></div>");
        House.due("it is a first and a last thing", h.box(3), "0 0 40 15");
        h = House.shown(40, "p{margin:4}hr{display:inline}", "<p>a</p><hr><p>b</p>");
        House.says(22, "An hr that is inline in a BLOCK is an INLINE thing without any ITEM.");
        House.due("it parts too", h.it.box(6, 1), 19);
        House.due("it has no BOX", h.it.box(5, 1), -1000);
    }

    // ---- DOWN a BLOCK

    static void linesBehindABlock() {
        House.says(22, "DOWN a BLOCK: y begins at the INNER y. LINES begin at y, behind a BLOCK at its end and its BOTTOM, and y is their end then.");
        House.due("at the INNER y", House.shown(40, "div{padding:3}", "t").places(), "3,3");
        House.due("behind a BLOCK", House.shown(40, "p{margin:4}", "<p>a</p>t").places(), "4,4 0,15");
        House.due("behind LINES", House.shown(40, "p{margin:4}", "t<p>a</p>").places(), "0,0 4,11");
        House.due("behind BOTTOM that joined", House.shown(40, "p{margin:4}", "<div><p>a</p></div>t").places(), "4,4 0,15");
        House.due("of no height", House.shown(40, "p{margin:4}", "<p></p>t").places(), "0,8");
    }

    static void theGreaterOfTwo() {
        House.says(22, "A BLOCK stands at y and its TOP (0, if JOINED); behind a BLOCK, at that one's end and the greater one of its BOTTOM and this TOP;");
        House h = House.shown(40, ".k{margin:3}.m{margin:5}", "<div class=k>a</div><div class=m>b</div><div class=k>c</div><div class=k></div><div>d</div>");
        House.due("TOP at first", h.it.box(3, 1), 3);
        House.due("this TOP is greater", h.it.box(5, 1), 15);
        House.due("its BOTTOM is greater", h.it.box(7, 1), 27);
        House.due("both alike", h.it.box(9, 1), 37);
        House.due("behind one of no height", h.it.box(10, 1), 40);
    }

    static void neverAboveAFloatsEnd() {
        House.says(22, "but never above the end of a FLOAT of the same BLOCK that is ahead of it; y is its BOX's end then.");
        Object[][] rows = {{1, 2}, {2, 2}, {3, 3}, {20, 20}};
        for (Object[] row : rows) {
            House h = House.shown(40, "i{float:left;width:5;height:" + row[0] + "}", "<i></i><p>a</p>");
            House.due("a FLOAT " + row[0] + " high", h.it.box(4, 1), (Integer) row[1]);
        }
        House h = House.shown(40, "i{float:left;width:5;height:5;margin:3}", "<i></i><p>a</p>");
        House.due("its end is with its margin", h.it.box(4, 1), 11);
        h = House.shown(40, "i{float:left;width:5;height:20}.k{height:3}", "<div class=k><i></i></div><p>a</p>");
        House.due("not one of another BLOCK", h.it.box(5, 1), 5);
        h = House.shown(40, "i{float:left;width:5;height:20}", "<p>a</p><i></i><p>b</p>");
        House.due("not one behind it", h.it.box(3, 1), 2);
        House.due("but one ahead of it", h.it.box(6, 1), 31);
    }

    static void heights() {
        House.says(22, "HEIGHT: that told; else as far as y, the last BLOCK's BOTTOM (0, if JOINED), and the ends of its FLOATS with their margins reach, whatever is more; with border and padding. A height that is told is at least border and padding.");
        Object[][] rows = {
            {"height:0", "t", 0}, {"height:96", "t", 96}, {"height:3;border:2", "t", 4}, {"height:4;border:2", "t", 4}, {"height:5;border:2", "t", 5},
            {"padding:20;border:3", "", 46}, {"padding:1", "t", 9}, {"border:1", "<p>a</p>", 13}, {"border:1", "<i></i>", 16}, {"border:1", "<i></i>a<br>b<br>c", 23},
            {"border:1", "<i></i><p>a</p>", 25}, {"border:1", "", 2}, {"border:1", "<b></b>", 2},
        };
        for (Object[] row : rows) {
            House h = House.shown(40, ".k{" + row[0] + "}i{float:left;width:4;height:10;margin:2}", "<div class=k>" + row[1] + "</div>");
            House.due(row[0] + " with " + row[1], h.it.box(3, 3), (Integer) row[2]);
        }
    }

    static void lastBlocksBottom() {
        House.says(22, "\"The last BLOCK's BOTTOM\" counts if nothing but what has display none comes behind it.");
        House h = House.shown(40, "p{margin:4}.k{border:1}.n{display:none}", "<div class=k><p>a</p><b class=n>x</b><p class=n>y</p></div>");
        House.due("what has display none behind it", h.it.box(3, 3), 17);
        h = House.shown(40, "p{margin:4}.n{display:none}", "<div><p>a</p><b class=n>x</b></div>");
        House.due("it is the last thing, so it joins", h.it.box(3, 3), 7);
        h = House.shown(40, "p{margin:4}", "<div><p>a</p><b></b></div>");
        House.due("with LINES behind it, it does not", h.it.box(3, 3), 11);
    }
}
