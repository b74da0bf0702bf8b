/** Promises 24 point, 25 top. */
public final class PictureTest {
    public static void main(String[] args) {
        edges();
        boxes();
        glyphs();
        inputs();
        buttons();
        top();
        House.finish();
    }

    private static House shown(String page) {
        House h = new House();
        h.it.screen(20);
        h.page(page);
        return h;
    }

    private static String rows(House h, int from, int to) {
        StringBuilder all = new StringBuilder();
        for (int y = from; y <= to; y++) {
            all.append(y == from ? "" : "/");
            for (int x = 0; x < 20; x++) {
                int c = h.it.point(x, y);
                all.append(c == 0 ? '.' : c == 63 ? '#' : (char) ('a' + c - 1));
            }
        }
        return all.toString();
    }

    private static void edges() {
        House h = shown("");
        House.due("nothing has a height", h.it.count(14), 0);
        House.due("so no point is in it", h.it.point(0, 0), -1);
        h = shown("x");
        House.due("height", h.it.count(14), 7);
        House.due("right of it", h.it.point(20, 0), -1);
        House.due("left of it", h.it.point(-1, 0), -1);
        House.due("below it", h.it.point(0, 7), -1);
        House.due("above it", h.it.point(0, -1), -1);
        House.due("far", h.it.point(Integer.MAX_VALUE, Integer.MIN_VALUE), -1);
        House.due("its last point", h.it.point(19, 6), 0);
        h = shown("<style>p{height:90;background:3;margin:0}</style><p></p><p></p><p></p><p></p><p></p>");
        House.due("400 at most", h.it.count(14), 400);
        House.due("the BOX is higher", h.it.box(0, 3), 450);
        House.due("399", h.it.point(0, 399), 3);
        House.due("400", h.it.point(0, 400), -1);
    }

    private static void boxes() {
        House h = shown("<style>p{background:1;border:1;padding:1;margin:1;color:2;height:5;width:8}"
                + "div{background:3}i{display:block;background:0}</style><p><i></i></p>");
        House.due("BACKGROUND, border, what lies in it", rows(h, 0, 6),
                "cccccccccccccccccccc/cbbbbbbbbccccccccccc/cbaaaaaabccccccccccc/cbaaaaaabccccccccccc/"
                + "cbaaaaaabccccccccccc/cbbbbbbbbccccccccccc/cccccccccccccccccccc");
        h = shown("<style>p{background:1;margin:0;height:2}i{display:block;background:0;height:1;width:3}</style><p><i></i></p>");
        House.due("0 is painted too", rows(h, 0, 1), "...aaaaaaaaaaaaaaaaa/aaaaaaaaaaaaaaaaaaaa");
        h = shown("<style>b{background:1;border:1}</style><b>x</b>");
        House.due("inline ones have no BOX to paint", h.it.point(3, 0), 0);
        h = shown("<style>img{width:3;height:2;border:1;background:5;color:4}</style><img>");
        House.due("img all in color", rows(h, 0, 1), "ddd................./ddd.................");
    }

    /** The rows of a GLYPH of size 1, as the document's formula gives them. */
    private static String glyph(int c, int columns) {
        StringBuilder all = new StringBuilder();
        for (int j = 0; j < 5; j++) {
            for (int i = 0; i < columns; i++) {
                all.append(((c * 40503) >> 3 >> ((5 * i + j) % 13) & 1) == 1 ? '#' : '.');
            }
            all.append('/');
        }
        return all.toString();
    }

    private static String seen(House h, int x, int y, int columns, int size) {
        StringBuilder all = new StringBuilder();
        for (int j = 0; j < 5; j++) {
            for (int i = 0; i < columns; i++) {
                int c = h.it.point(x + i * size, y + (j + 1) * size);
                boolean same = true;
                for (int p = 0; p < size * size; p++) {
                    same = same && h.it.point(x + i * size + p % size, y + (j + 1) * size + p / size) == c;
                }
                all.append(!same ? '?' : c == 63 ? '#' : '.');
            }
            all.append('/');
        }
        return all.toString();
    }

    private static void glyphs() {
        // a is 97: 97 * 40503 = 3928791, >> 3 = 491098 = 1110111111001011010 in twos, the lowest bit last
        House.due("a, worked out by hand", seen(shown("a"), 0, 0, 3, 1), "..#/###/..#/#../###/");
        House h = shown("aim|W");
        House.due("a", seen(h, 0, 0, 3, 1), glyph('a', 3));
        House.due("i", seen(h, 4, 0, 1, 1), glyph('i', 1));
        House.due("m", seen(h, 6, 0, 4, 1), glyph('m', 4));
        House.due("|", seen(h, 11, 0, 1, 1), glyph('|', 1));
        House.due("W", seen(h, 13, 0, 4, 1), glyph('W', 4));
        for (int x = 0; x < 20; x++) {
            House.due("nothing above GLYPHS", h.it.point(x, 0), 0);
            House.due("nothing below GLYPHS", h.it.point(x, 6), 0);
        }
        for (int y = 0; y < 7; y++) {
            House.due("nothing between GLYPHS", h.it.point(3, y), 0);
        }
        h = shown("<style>b{size:2}</style><b>Qk</b>");
        House.due("Q of size 2", seen(h, 0, 0, 3, 2), glyph('Q', 3));
        House.due("k of size 2", seen(h, 8, 0, 3, 2), glyph('k', 3));
        h = shown("<style>div{color:5;background:7}b{color:6}</style>a<b>a</b>");
        House.due("in color", h.it.point(0, 2), 5);
        House.due("over BACKGROUND", h.it.point(0, 1), 7);
        House.due("in its own color", h.it.point(4, 2), 6);
    }

    private static void inputs() {
        House h = shown("<style>input{width:14}</style><input value='ab  c'>");
        House.due("border", rows(h, 0, 0), "##############......");
        House.due("a", seen(h, 1, 1, 3, 1), glyph('a', 3));
        House.due("b", seen(h, 5, 1, 3, 1), glyph('b', 3));
        House.due("c does not go in", h.it.point(12, 3), 0);
        House.due("nothing below it", h.it.point(12, 8), 0);
        h = shown("<style>input{width:16}</style><input value='a b iii'>");
        House.due("b behind a blank", seen(h, 8, 1, 3, 1), glyph('b', 3));
        House.due("the border stays", h.it.point(15, 4), 63);
        h = shown("<style>input{width:20;color:4;background:2}</style><input type=check checked value=ab><input type=check>");
        House.due("CHECKED: all of its INNER in color", h.it.point(10, 5), 4);
        House.due("also at its edge", h.it.point(1, 1), 4);
        House.due("not CHECKED", h.it.point(10, 15), 2);
        h.it.press(10, 15);
        House.due("CHECKED now", h.it.point(10, 15), 4);
        h = shown("<style>p{margin:2}input{width:12;padding:1}</style><p>i<input value=ab></p>");
        House.due("elsewhere", h.box(5), "4 2 12 11");
        House.due("a there", seen(h, 6, 4, 3, 1), glyph('a', 3));
        House.due("b there", seen(h, 10, 4, 3, 1), glyph('b', 3));
        h = shown("<input id=x>");
        h.script("val x a");
        House.due("its VALUE now", seen(h, 1, 1, 3, 1), glyph('a', 3));
        h.it.press(3, 3);
        h.it.key('b');
        House.due("what was typed", seen(h, 5, 1, 3, 1), glyph('b', 3));
    }

    private static void buttons() {
        House h = shown("<style>button{background:3}b{size:3;color:9}</style><button> a\n <b>b</b></button>");
        House.due("BOX", h.box(3), "0 0 15 11");
        House.due("border", h.it.point(0, 5), 63);
        House.due("BACKGROUND", h.it.point(1, 1), 3);
        House.due("a, two points in, by the button's size", h.it.point(2, 4), 63);
        House.due("as a is", h.it.point(2, 3), 3);
        House.due("b behind one blank", h.it.point(9, 3) == 63 || h.it.point(9, 4) == 63 || h.it.point(9, 5) == 63 ? 1 : 0, 1);
        House.due("a blank shows nothing", h.it.point(7, 4), 3);
    }

    private static void top() {
        House h = shown("<div>a<b>b</b></div><p>c<img></p>");
        House.due("a TEXT", h.it.top(0, 0), 2);
        House.due("whatever it shows", h.it.top(3, 6), 2);
        House.due("the TEXT within b", h.it.top(4, 0), 4);
        House.due("the BLOCK beside", h.it.top(8, 0), 1);
        House.due("THE ROOT beside", h.it.top(0, 12), 0);
        House.due("the margin", h.it.top(5, 8), 0);
        House.due("p", h.it.top(3, 9), 5);
        House.due("a PIECE", h.it.top(6, 9), 7);
        House.due("out of it", h.it.top(20, 0), -1);
        House.due("above", h.it.top(0, -1), -1);
        House.due("below", h.it.top(0, 19), -1);
        House.due("far", h.it.top(Integer.MIN_VALUE, 0), -1);
        h = shown("<style>p{height:3;margin:0}.k{height:9;background:5}</style><p>x</p><div class=k></div>");
        House.due("what is painted last", h.it.top(0, 4), 5);
        House.due("its BACKGROUND", h.it.point(0, 4), 5);
        House.due("what is left of the WORD", h.it.top(0, 2), 4);
    }
}
