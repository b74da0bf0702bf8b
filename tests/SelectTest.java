/** Promises 18 select, 19 found. */
public final class SelectTest {
    public static void main(String[] args) {
        matches();
        wrongTexts();
        House.finish();
    }

    private static void matches() {
        House h = new House();
        h.page("<div id=x class='k m'><p class=k>a<b class='k\nn'>c</b></p><zz id=abcdefghi><p id=X></p></zz></div>");
        // 0 root, 1 div, 2 p, 3 text, 4 b, 5 text, 6 zz, 7 p
        String[][] rows = {
            {"p", "2 7"}, {"div", "0 1"}, {"*", "0 1 2 4 6 7"}, {".k", "1 2 4"}, {".k.m", "1"}, {"p.k", "2"},
            {"*.n", "4"}, {"#x", "1"}, {"#x.k", "1"}, {"#x#x", "1"}, {"#x#y", ""}, {"div p", "2 7"}, {"div div p", "2 7"},
            {"div div div", ""}, {"p b", "4"}, {"p p", ""}, {".k .k", "2 4"}, {".k .k .k", "4"}, {"#x\n \nb", "4"},
            {"zz", "6"}, {"zz p", "7"}, {"zy", ""}, {"#abcdefgh", ""}, {".kk", ""}, {"p.k.k.k.k", "2"}, {"div *", "1 2 4 6 7"},
        };
        for (String[] row : rows) {
            int many = row[1].isEmpty() ? 0 : row[1].split(" ").length;
            House.due("select " + row[0], h.select(row[0]), many);
            House.due("found " + row[0], h.found(), row[1]);
        }
        h.page("<b id=abcdefgh class='xabcdefgh abcdefghi'></b><b id=xabcdefgh class='m abcdefgh'></b><b id=abcdefghi></b>");
        House.due("eight bytes of an id", h.select("#abcdefgh"), 1);
        House.due("that one", h.it.found(0), 1);
        House.due("eight bytes of a class", h.select(".abcdefgh"), 1);
        House.due("that other one", h.it.found(0), 2);
        h.page("<div id=x><p>a</p></div><zz><p>b</p></zz>");
        h.select("p");
        House.due("found(2)", h.it.found(2), -1);
        House.due("found(-1)", h.it.found(-1), -1);
        h.script("del x");
        House.due("also one that went", h.found(), "2 5");
        h.page("");
        House.due("also of another page", h.found(), "2 5");
        House.due("THE ROOT", h.select("div"), 1);
        House.due("0", h.it.found(0), 0);
        h.script("class self k");
        House.due("THE ROOT by class", h.select("div.k"), 1);
    }

    private static void wrongTexts() {
        House h = new House();
        h.page("<p>");
        h.select("p");
        Object[][] rows = {
            {"", 0}, {" p", 0}, {"p ", 2}, {"p  ", 3}, {"9", 0}, {"P", 0}, {"pA", 1}, {"p*", 1}, {"*p", 1}, {"**", 1},
            {".", 1}, {"#", 1}, {".9", 1}, {"p..k", 2}, {"p.k#", 4}, {"a b c d", 5}, {"a b c ", 5}, {"a b  c", -1},
            {"abcdefghi", 8}, {".abcdefghi", 9}, {".a.a.a.a.a", 8}, {"p.a#a.a#a#a", 9}, {"a,b", 1}, {"a{", 1}, {"a .", 3},
            {"p \n", 3}, {"a b ", 4}, {"a.", 2}, {"a > b", 2},
        };
        for (Object[] row : rows) {
            int place = (Integer) row[1];
            if (place >= 0) {
                House.due("select [" + row[0] + "]", h.select((String) row[0]), -1000 - place);
                House.due("FOUND stays", h.found(), "1");
            }
        }
    }
}
