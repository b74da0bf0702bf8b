/** Promise 20: style; SHEET TEXTS and how their RULES come together. */
public final class StyleTest {
    public static void main(String[] args) {
        usual();
        valuesRead();
        rulesRead();
        cascade();
        fixed();
        forty();
        House.finish();
    }

    private static void usual() {
        House h = new House();
        Object[][] rows = {
            {"div", "0 63 -1 0 0 0 -1 -1 1 0 0"}, {"p", "0 63 -1 2 0 0 -1 -1 1 0 0"}, {"h1", "0 63 -1 2 0 0 -1 -1 2 0 0"},
            {"ul", "0 63 -1 2 4 0 -1 -1 1 0 0"}, {"li", "0 63 -1 0 0 0 -1 -1 1 0 0"}, {"form", "0 63 -1 0 0 0 -1 -1 1 0 0"},
            {"span", "1 63 -1 0 0 0 -1 -1 1 0 0"}, {"hr", "0 63 -1 0 0 1 -1 -1 1 0 0"}, {"br", "1 63 -1 0 0 0 -1 -1 1 0 0"},
            {"img", "1 63 -1 0 0 0 -1 -1 1 0 0"}, {"input", "1 63 -1 0 0 1 -1 -1 1 0 0"},
            {"button", "1 63 -1 0 1 1 -1 -1 1 0 0"}, {"style", "2 63 -1 0 0 0 -1 -1 1 0 0"}, {"zz", "1 63 -1 0 0 0 -1 -1 1 0 0"},
        };
        for (Object[] row : rows) {
            h.page("<" + row[0] + ">");
            House.due("usual " + row[0], h.styles(1), (String) row[1]);
        }
        House.due("no such PROPERTY", h.it.style(1, 11), -1);
        House.due("below", h.it.style(1, -1), -1);
        House.due("no such NODE", h.it.style(2, 1), -1);
        House.due("NODE below", h.it.style(-1, 1), -1);
        h.page("<style>p{color:5;size:3;align:right;margin:7}</style><p>a<b>c</b></p>");
        House.due("what is handed down", h.styles(5), "1 5 -1 0 0 0 -1 -1 3 2 0");
        House.due("of a TEXT", h.styles(4), h.styles(3));
        h.page("<style>div{size:3}</style><h1>x</h1>");
        House.due("h1 has its own size", h.it.style(3, 8), 2);
    }

    private static void is(String decl, int property, int due) {
        House h = new House();
        h.page("<style>b{" + decl + "}</style><b></b>");
        House.due("b{" + decl + "}", h.it.style(3, property), due);
    }

    private static void valuesRead() {
        is("display:block", 0, 0);
        is("display:none", 0, 2);
        is("display:flex", 0, 3);
        is("display:blocks", 0, 1);
        is("color:0", 1, 0);
        is("color:63", 1, 63);
        is("color:64", 1, 63);
        is("color:007", 1, 7);
        is("color:0007", 1, 7);
        is("color:00007", 1, 63);
        is("color:x", 1, 63);
        is("color:", 1, 63);
        is("background:9", 2, 9);
        is("background:64", 2, -1);
        is("margin:20", 3, 20);
        is("margin:21", 3, 0);
        is("padding:20", 4, 20);
        is("border:3", 5, 3);
        is("border:4", 5, 0);
        is("width:0", 6, 0);
        is("width:96", 6, 96);
        is("width:97", 6, -1);
        is("width:1%", 6, 1001);
        is("width:100%", 6, 1100);
        is("width:0%", 6, -1);
        is("width:101%", 6, -1);
        is("width:50 %", 6, -1);
        is("height:50%", 7, -1);
        is("height:96", 7, 96);
        is("size:1", 8, 1);
        is("size:0", 8, 1);
        is("size:4", 8, 1);
        is("align:center", 9, 1);
        is("align:right", 9, 2);
        is("float:left", 10, 1);
        is("float:right", 10, 2);
        is("float:center", 10, 0);
        is("zz:1;color:7", 1, 7);
        is("color:7;;size:2", 8, 2);
        is("color 7;size:2", 1, 63);
        is(" color\n: 7 ! ", 1, 7);
        is("color:7!!", 1, 63);
        is("color:7 8", 1, 63);
        is("color:{7;size:2", 8, 2);
        is("Color:7", 1, 63);
        is("color=7", 1, 63);
        is("color7", 1, 63);
        is("color:0!;color:5", 1, 0);
        is("height:97", 7, -1);
        is("height:0", 7, 0);
        is("padding:21", 4, 0);
        is("background:0", 2, 0);
        House h = new House();
        h.page("<style>h1{size:1;margin:0}ul{padding:0}input{border:0}</style><h1></h1><ul></ul><input>");
        House.due("the least size", h.it.style(3, 8), 1);
        House.due("the least margin", h.it.style(3, 3), 0);
        House.due("the least padding", h.it.style(4, 4), 0);
        House.due("the least border", h.it.style(5, 5), 0);
    }

    private static void rule(String sheet, int due, int selectors) {
        House h = new House();
        h.page("<style>" + sheet + "</style><b></b>");
        House.due("color by " + sheet, h.it.style(3, 1), due);
        House.due("SELECTORS of " + sheet, h.it.count(16), selectors);
    }

    private static void rulesRead() {
        rule("b{color:7}", 7, 1);
        rule("b{color:7", 63, 0);
        rule("b color:7}", 63, 0);
        rule("{color:7}", 63, 0);
        rule("b{}", 63, 1);
        rule("}b{color:7}", 7, 1);
        rule("B{color:5}b{color:7}", 7, 1);
        rule("i , b{color:7}", 7, 2);
        rule("b,{color:7}", 63, 0);
        rule("b,B{color:7}", 63, 0);
        rule("i>b{color:7}", 63, 0);
        rule("i{color:5 b{color:7}", 63, 1);
        rule(" \n b \n {\ncolor:7\n} ", 7, 1);
        rule("div b{color:7}", 7, 1);
        rule("a b c d{color:6}b{color:7}", 7, 1);
        rule("b{color:7}i{", 7, 1);
        House h = new House();
        h.page("<p>b{color:7}</p><b></b>");
        House.due("a TEXT elsewhere is no SHEET TEXT", h.it.count(16), 0);
        h.page("<style>b{color:</style><style>7}b{size:3}</style><b></b>");
        House.due("each TEXT by itself", h.it.style(5, 1), 63);
        House.due("7}b is passed over", h.it.style(5, 8), 3);
        h.page("<b id=x></b>");
        h.script("add self style");
        House.due("a style without TEXT", h.it.count(16), 0);
        h.page("<b></b><style id=x></style>");
        h.script("text x b{color:9}");
        House.due("a TEXT that came", h.it.style(1, 1), 9);
        h.script("del x");
        House.due("and went", h.it.style(1, 1), 63);
    }

    private static void color(String sheet, int due) {
        House h = new House();
        h.page("<style>" + sheet + "</style><p id=x class='k m'><b id=y class=k></b></p>");
        h.select("#y");
        House.due("color by " + sheet, h.it.style(h.it.found(0), 1), due);
    }

    private static void cascade() {
        color("b{color:1}b{color:2}", 2);
        color(".k{color:1}b{color:2}", 1);
        color("#y{color:1}.k.k.k{color:2}b{color:3}", 1);
        color("b{color:1!}#y{color:2}", 1);
        color("b{color:1!}.k{color:2!}", 2);
        color("b{color:1!;color:2}", 1);
        color("b{color:1!;color:2!;color:3}", 2);
        color("b{color:1;color:2}", 2);
        color("p b{color:1}b{color:2}", 1);
        color("p b{color:1}*{color:2}", 1);
        color(".m .k{color:1}.k{color:2}", 1);
        color("#x{color:1}", 1);
        color("#x{color:1}b{color:2}", 2);
        color("b,#y{color:1}.k{color:2}", 1);
        color("* * *{color:1}b{color:2}", 2);
        color("b{color:1}</style><style>b{color:2}", 2);
        color("#y{color:1}.k.k.k.k .k.k.k.k{color:2}", 1);
        color("#x .k{color:1}.k.k.k.k#x .k.k.k{color:2}", 1);
        color("#x .k{color:1}.k.k.k#x b.k{color:2}", 2);
        color("b.k{color:1}p .k{color:2}p b.k{color:3}* .k{color:4}", 3);
    }

    private static void fixed() {
        House h = new House();
        h.page("<style>*{float:left;display:flex}</style><img><b></b><p></p><br><input><button></button>");
        House.due("THE ROOT is a block", h.it.style(0, 0), 0);
        House.due("without float", h.it.style(0, 10), 0);
        House.due("img is inline", h.it.style(3, 0), 1);
        House.due("its float is none", h.it.style(3, 10), 0);
        House.due("flex stays", h.it.style(4, 0), 3);
        House.due("br", h.it.style(6, 0), 1);
        House.due("input", h.it.style(7, 0), 1);
        House.due("button", h.it.style(8, 10), 0);
        h.page("<style>*{float:left}.n{display:none;float:right}</style><b></b><b class=n></b><img class=n>");
        House.due("a float makes inline block", h.it.style(3, 0), 0);
        House.due("none stays", h.it.style(4, 0), 2);
        House.due("none of img", h.it.style(5, 0), 2);
    }

    private static void forty() {
        House h = new House();
        h.page("<style>" + "i,".repeat(37) + "i{color:1}</style><style>b,b{color:2}b,b{color:3}</style><b></b>");
        House.due("40 at most", h.it.count(16), 40);
        House.due("what is beyond is passed over", h.it.style(5, 1), 2);
        h.page("<style>" + "i,".repeat(38) + "i{color:1}b,B{color:2}i,b{color:3}b{color:4}</style><b></b>");
        House.due("some of a RULE", h.it.count(16), 40);
        House.due("not its second", h.it.style(3, 1), 63);
    }
}
