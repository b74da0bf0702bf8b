/** Promises 21 screen, 22 box, 23 word. */
public final class LayoutTest {
    public static void main(String[] args) {
        screen();
        boxes();
        words();
        lines();
        margins();
        widths();
        heights();
        floats();
        pieces();
        inline();
        flex();
        House.finish();
    }

    private static House shown(int width, String page) {
        House h = new House();
        h.it.screen(width);
        h.page(page);
        return h;
    }

    private static void screen() {
        House h = new House();
        House.due("19", h.it.screen(19), -1);
        House.due("97", h.it.screen(97), -1);
        House.due("48 at first", h.it.box(0, 2), 48);
        House.due("20", h.it.screen(20), 1);
        House.due("20 wide", h.it.box(0, 2), 20);
        House.due("96", h.it.screen(96), 1);
        House.due("96 wide", h.it.box(0, 2), 96);
        h.page("aa bb cc");
        House.due("one LINE", h.places(), "0,0 11,0 22,0");
        h.it.screen(20);
        House.due("two LINES", h.places(), "0,0 11,0 0,7");
        House.due("WRONG stays", h.it.screen(0), -1);
        House.due("still two", h.places(), "0,0 11,0 0,7");
    }

    private static void boxes() {
        House h = shown(40, "<div>x<b>y</b><br><img></div>");
        House.due("THE ROOT", h.box(0), "0 0 40 15");
        House.due("a BLOCK", h.box(1), "0 0 40 15");
        House.due("a TEXT has none", h.it.box(2, 0), -1000);
        House.due("inline has none", h.it.box(3, 0), -1000);
        House.due("br has none", h.it.box(5, 0), -1000);
        House.due("a PIECE", h.box(6), "0 7 8 8");
        House.due("no such NODE", h.it.box(7, 0), -1000);
        House.due("NODE below", h.it.box(-1, 0), -1000);
        House.due("another what", h.it.box(0, 4), -1000);
        House.due("what below", h.it.box(0, -1), -1000);
        h.page("<style>.n{display:none}</style><div class=n><p>x</p></div>");
        House.due("display none", h.it.box(3, 0), -1000);
        House.due("what lies in it", h.it.box(4, 0), -1000);
    }

    private static void words() {
        House h = shown(96, "<p> mil  W@<b>,a</b></p><h1>x\ny</h1>");
        House.due("first", h.word(0), "2 1 3 2 2 9 7");
        House.due("second", h.word(1), "2 6 2 14 2 10 7");
        House.due("without a blank ahead", h.word(2), "4 0 2 24 2 6 7");
        House.due("size 2", h.word(3), "6 0 1 2 11 8 14");
        House.due("a blank of size 2", h.word(4), "6 2 1 16 11 8 14");
        House.due("no more", h.it.word(5, 0), -1000);
        House.due("below", h.it.word(-1, 0), -1000);
        House.due("another what", h.it.word(0, 7), -1000);
        House.due("what below", h.it.word(0, -1), -1000);
        h.page("<style>i{display:none}.f{display:flex}</style><i>a</i><button>b</button><div class=f>c<b>d</b></div>e");
        House.due("only those that are laid", h.name(h.it.word(0, 0)), "d");
        House.due("then", h.name(h.it.word(1, 0)), "e");
        House.due("that is all", h.it.word(2, 0), -1000);
    }

    private static void lines() {
        House.due("a LINE that is just full", shown(20, "aaa aa").places(), "0,0 0,7");
        House.due("full with its blank", shown(23, "aaa aa").places(), "0,0 15,0");
        House.due("too wide at once", shown(20, "a aaaaaaaa b").places(), "0,0 0,7 0,14");
        House.due("breaks between any two", shown(20, "aaaa<b>bb</b>").places(), "0,0 0,7");
        House.due("br", shown(40, "a<br>b<br><br>c").places(), "0,0 0,7 0,21");
        House.due("a br of its own size",
                shown(40, "<style>br{size:3}</style><br>c").places(), "0,21");
        House.due("on the lower edge", shown(60, "<style>b{size:2}</style>a <b>b</b> c").places(), "0,7 10,0 21,7");
        House.due("center", shown(40, "<style>div{align:center}</style>aaa bb").places(), "8,0 23,0");
        House.due("right", shown(40, "<style>div{align:right}</style>aaa<br>bb").places(), "28,0 32,7");
        House.due("nothing left", shown(20, "<style>div{align:right}</style>aaaaaa").places(), "0,0");
        House.due("blanks between TEXTS", shown(60, "a <b> b </b><i>c</i>").places(), "0,0 7,0 14,0");
        House.due("blanks that are gone", shown(60, "a <b> b</b> <i>c</i>").places(), "0,0 7,0 11,0");
    }

    private static void margins() {
        House h = shown(40, "<p>a</p><p>b</p>");
        House.due("the greater one of two", h.box(3), "2 11 36 7");
        House.due("BOTTOM counts", h.it.box(0, 3), 20);
        h = shown(40, "<style>p{margin:5}</style><div><p>a</p></div>b");
        House.due("JOINED: the div is apart", h.box(3), "0 5 40 7");
        House.due("JOINED: the p stands at its INNER y", h.box(4), "5 5 30 7");
        House.due("BOTTOM of the div", h.it.word(1, 4), 17);
        h = shown(40, "<style>.k{margin:9}p{margin:5}</style><div class=k><p>a</p></div>b");
        House.due("whichever is greater", h.box(4), "14 9 12 7");
        House.due("the div's own", h.it.word(1, 4), 25);
        h = shown(40, "<style>.k{padding:1}p{margin:5}</style><div class=k><p>a</p></div>b");
        House.due("padding parts", h.box(4), "6 6 28 7");
        House.due("the div is higher then", h.box(3), "0 0 40 19");
        h = shown(40, "<style>p{margin:5}</style><div>x<p>a</p></div>b");
        House.due("a LINE first parts", h.box(5), "5 12 30 7");
        h = shown(40, "<style>p{margin:5}</style><div><i></i><p>a</p><i></i></div>b");
        House.due("LINES of no height part too", h.box(3), "0 0 40 17");
        h = shown(40, "<style>p{margin:5}.k{height:9}</style><div class=k><p>a</p></div>b");
        House.due("a height told parts BOTTOM", h.it.word(1, 4), 14);
        h = shown(40, "<style>p{margin:5}i{display:none}</style><div><i>q</i><p>a</p><i>q</i></div>b");
        House.due("what has display none is no thing", h.box(3), "0 5 40 7");
        h = shown(40, "<style>p{margin:5}</style><p>a</p><i></i><p>b</p>");
        House.due("LINES of nothing between", h.box(6), "5 22 30 7");
        h = shown(40, "<style>p{margin:5}</style><div><div><p>a</p></div></div>");
        House.due("deep", h.box(3), "0 5 40 7");
        h = shown(40, "<style>p{margin:5}</style><div><p>a</p>x<p>b</p></div>");
        House.due("only the first thing's TOP has JOINED", h.box(7), "5 29 30 7");
        h = shown(40, "<style>p{margin:5}</style><div><div><p>a</p></div></div>");
        House.due("THE ROOT's height", h.it.box(0, 3), 17);
    }

    private static void widths() {
        House h = shown(40, "<style>.a{width:30}.b{width:50%}.c{width:33%;padding:2;border:1}.d{width:1;border:3}</style>"
                + "<div class=c><p class=b>x</p></div><div class=a></div><div class=d>y</div><p class=b></p>");
        House.due("33% down, with border and padding", h.box(3), "0 0 13 17");
        House.due("50% of the INNER width", h.box(4), "5 5 3 7");
        House.due("told", h.box(6), "0 17 30 0");
        House.due("at least its border", h.box(7), "0 17 6 13");
        House.due("50%", h.box(9), "2 32 20 0");
    }

    private static void heights() {
        House h = shown(40, "<style>.a{height:20}.b{height:3;border:2}</style><div class=a>x</div><div class=b></div><hr>");
        House.due("told", h.box(3), "0 0 40 20");
        House.due("at least its border", h.box(5), "0 20 40 4");
        House.due("hr", h.box(6), "0 24 40 2");
        h = shown(40, "<style>*{padding:1}</style>x");
        House.due("THE ROOT has padding", h.box(0), "0 0 40 9");
        House.due("and its INNER", h.places(), "1,1");
        h = shown(30, "<style>p{padding:2;border:1;margin:1}</style><p>aaaa bb</p>");
        House.due("LINES go as far as the INNER right edge", h.places(), "4,4 4,11");
        h = shown(31, "<style>p{padding:2;border:1;margin:0}</style><p>aaaa b</p>");
        House.due("just in", h.places(), "3,3 22,3");
        h = shown(40, "<style>p{padding:2;border:1;margin:1;align:right}</style><p>aa</p>");
        House.due("align to the INNER right edge", h.places(), "28,4");
    }

    private static void floats() {
        String sheet = "<style>.l{float:left;width:10;height:10}.r{float:right;width:10;height:20}.m{margin:1}</style>";
        House h = shown(40, sheet + "<div class=l></div><div class=r></div>aa bb cc dd ee ff");
        House.due("left", h.box(3), "0 0 10 10");
        House.due("right", h.box(4), "30 0 10 20");
        House.due("LINES between", h.places(), "10,0 21,0 10,7 21,7 0,14 11,14");
        House.due("as far as FLOATS reach", h.it.box(0, 3), 21);
        h = shown(40, sheet + "<div class='l m'></div>aa");
        House.due("with margin", h.box(3), "1 1 10 10");
        House.due("beside it", h.places(), "12,0");
        House.due("its end with margin", h.it.box(0, 3), 12);
        h = shown(40, sheet + "<div class='r m'></div><p class='r m'></p>aaaa bb");
        House.due("right with margin", h.box(3), "29 1 10 20");
        House.due("another one beside it", h.box(4), "17 1 10 20");
        House.due("what is left of them", h.places(), "0,0 0,7");
        h = shown(40, sheet + "aa <div class=l></div>bb");
        House.due("it waits for the LINE's end", h.box(4), "0 7 10 10");
        House.due("the LINE goes on", h.places(), "0,0 11,0");
        h = shown(25, sheet + "<i class=l></i><i class=l></i><i class=l></i><i class=r></i>");
        House.due("second beside the first", h.box(4), "10 0 10 10");
        House.due("third below", h.box(5), "0 10 10 10");
        House.due("not above an earlier one", h.box(6), "15 10 10 20");
        h = shown(40, sheet + "<i class=r></i>aaaaaaaa bb");
        House.due("an ITEM too wide goes below", h.places(), "0,20 0,27");
        h = shown(40, sheet + "<i class=l></i>a<p>x</p>");
        House.due("a BLOCK goes below FLOATS", h.box(5), "2 10 36 7");
        h = shown(40, "<style>i{float:left;padding:1;margin:2}</style><i>ab  c</i><i>" + "word ".repeat(5) + "</i>");
        House.due("as wide as its text", h.box(3), "2 2 17 9");
        House.due("at most the INNER width", h.box(5), "2 15 36 37");
        h = shown(40, "<style>i{float:left}p{margin:5}</style><div><i><p>a</p></i></div>");
        House.due("nothing is JOINED with a FLOAT", h.box(4), "0 0 4 17");
        House.due("the p in it", h.box(5), "5 5 0 7");
    }

    private static void pieces() {
        House h = shown(60, "<img> <input> <button> a  b </button>");
        House.due("img", h.box(1), "0 3 8 8");
        House.due("input", h.box(2), "8 0 24 11");
        House.due("button", h.box(3), "32 0 15 11");
        h = shown(60, "<style>img{width:50%;height:3;margin:9}input{width:10;height:40;size:2}button{width:60;size:2}</style>"
                + "<img><input><button>ab</button>");
        House.due("told; margins are of no matter", h.box(3), "0 15 30 3");
        House.due("input of size 2", h.box(4), "30 0 10 18");
        House.due("a button's width told is of no matter", h.box(5), "40 0 20 18");
        h = shown(20, "aaa<img>");
        House.due("onto the next LINE", shown(20, "aaaa<img>").box(2), "0 7 8 8");
        House.due("just in", h.box(2), "12 0 8 8");
        House.due("behind a blank", shown(40, "aaa <img>").box(2), "15 0 8 8");
        House.due("a blank of its own size", shown(60, "<style>img{size:3}</style>a <img>").box(4), "13 0 8 8");
    }

    private static void inline() {
        House h = shown(40, "<style>i{float:left}</style><span>a<p>b<i>c</i></p><hr>d</span>");
        House.due("BLOCKS and FLOATS within are as inline", h.places(), "0,0 4,0 8,0 12,0");
        House.due("no BOX", h.it.box(5, 0), -1000);
        House.due("hr there is nothing", h.it.box(9, 0), -1000);
        h = shown(40, "<style>hr{display:inline}p{margin:3}</style><p>a</p><hr><p>b</p>");
        House.due("an inline hr is a thing without ITEM", h.box(6), "3 16 34 7");
        House.due("and has no BOX", h.it.box(5, 0), -1000);
    }

    private static void flex() {
        String sheet = "<style>.f{display:flex;padding:1}.m{margin:2;border:1}.w{width:50%}p{margin:3}</style>";
        House h = shown(40, sheet + "<div class=f>text<b class=m>ab c</b><br><img class=m><i class=w><p>x</p></i></div>");
        House.due("as wide as its text", h.box(5), "3 3 17 9");
        House.due("a PIECE with margin around", h.box(8), "24 3 8 8");
        House.due("told", h.box(9), "34 1 19 13");
        House.due("a BLOCK in it", h.box(10), "37 4 13 7");
        House.due("as high as the highest", h.box(3), "0 0 40 15");
        House.due("br has no place", h.it.box(7, 0), -1000);
        h = shown(40, "<style>.f{display:flex;height:5}p{margin:3}</style><div class=f><p>x</p></div><div>y</div>");
        House.due("told height", h.box(3), "0 0 40 5");
        House.due("nothing is JOINED", h.box(4), "3 3 4 7");
        House.due("what is behind", h.box(6), "0 5 40 7");
        h = shown(40, "<style>div{display:flex;border:1}</style><div>text<br></div>");
        House.due("with nothing in it", h.box(3), "1 1 38 2");
    }
}
