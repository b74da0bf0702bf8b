/** Promise 6: server; and the cache, cookies and what is FOLLOWED, by visits. */
public final class ServerTest {
    public static void main(String[] args) {
        wrongTexts();
        twelve();
        bodies();
        cache();
        ninthKept();
        cookies();
        followed();
        House.finish();
    }

    private static void wrongTexts() {
        House h = new House();
        Object[][] rows = {
            {"", -1000},
            {"\n", -1000},
            {"/a\n", -1000},
            {"a\n", -1000},
            {"//home/a#m\n", -1000},
            {"//Home/\n", -1000},
            {" //home/\n", -1000},
            {"//home/a", -1008},
            {"//home/a ", -1009},
            {"//home/a \nbody", -1009},
            {"//home/a  open\n", -1009},
            {"//home/a open \n", -1014},
            {"//home/a open", -1013},
            {"//home/a opened\n", -1009},
            {"//home/a open open\n", -1014},
            {"//home/a age=\n", -1009},
            {"//home/a age=12345\n", -1009},
            {"//home/a age=x\n", -1009},
            {"//home/a age=1 age=2\n", -1015},
            {"//home/a cookie=a\n", -1009},
            {"//home/a cookie=a:\n", -1009},
            {"//home/a cookie=:a\n", -1009},
            {"//home/a cookie=a:b:c\n", -1009},
            {"//home/a cookie=a:B\n", -1009},
            {"//home/a cookie=abcdefghi:b\n", -1009},
            {"//home/a cookie=a:b cookie=c:d\n", -1020},
            {"//home/a to=//9\n", -1009},
            {"//home/a to=b to=c\n", -1014},
            {"//home/a open wrong", -1014},
        };
        for (Object[] row : rows) {
            House.due("server " + row[0], h.server((String) row[0]), (Integer) row[1]);
        }
        House.due("none came", h.it.count(2), 0);
        House.due("all FIELDS", h.server("//home/a open to= cookie=a:b age=0012\n"), 1);
        House.due("without a PATH", h.server("//shop\n"), 2);
        House.due("that is the ADDRESS as read", h.server("//shop/x/..\n"), 2);
        House.due("QUERY too", h.server("//shop/?\n"), 3);
        House.due("another one at it", h.server("//shop/?\nb"), 3);
    }

    private static void twelve() {
        House h = new House();
        for (int i = 1; i <= 12; i++) {
            House.due("server " + i, h.server("//home/" + i + "\nold"), i);
        }
        House.due("a thirteenth", h.server("//home/13\nx"), -1);
        House.due("in place of one", h.server("//home/7\nnew"), 12);
        h.visit("//home/7");
        House.due("the new one", h.tree(), "<div>new</div>");
        h.visit("//home/13");
        House.due("it did not come", h.tree(), "<div></div>");
        House.due("WRONG ahead of NONE", h.server("//home/14"), -1009);
    }

    private static void bodies() {
        House h = new House();
        House.due("1500 bytes", h.server("//home/a\n" + "b".repeat(1500)), 1);
        House.due("1501 bytes", h.server("//home/a\n" + "b".repeat(1501)), -1000 - 1509);
        House.due("no bytes", h.server("//home/b\n"), 2);
        House.due("lines", h.server("//home/c\na\nb"), 3);
        h.visit("//home/c");
        House.due("the BODY is all behind the first byte 10", h.tree(), "<div>a\nb</div>");
    }

    private static void cache() {
        House h = new House();
        h.server("//home/a age=3\nold");
        h.visit("/a");
        House.due("a REQUEST", h.it.count(5), 1);
        House.due("KEPT", h.it.count(4), 1);
        h.server("//home/a\nnew");
        h.visit("/a#m");
        h.visit("/a");
        House.due("no REQUEST", h.it.count(5), 1);
        House.due("the KEPT one", h.tree(), "<div>old</div>");
        h.it.tick(2);
        h.visit("/a");
        House.due("TIME is above THE CLOCK still", h.it.count(5), 1);
        h.it.tick(1);
        h.visit("/a");
        House.due("it is not any more", h.it.count(5), 2);
        House.due("the new one", h.tree(), "<div>new</div>");
        House.due("stale ones count", h.it.count(4), 1);
        h.server("//home/b age=0\nb");
        h.visit("/b");
        House.due("age 0 is not KEPT", h.it.count(4), 1);
        h.visit("/none");
        House.due("EMPTY is a REQUEST", h.it.count(5), 4);
        House.due("its ADDRESS", h.out(h.it.write(1)), "//home/none");
        h.visit("/none?#m");
        House.due("its MARK is of no matter", h.out(h.it.write(1)), "//home/none?");
    }

    private static void ninthKept() {
        House h = new House();
        for (int i = 1; i <= 9; i++) {
            h.server("//home/" + i + (i == 1 ? " age=1\n" : " age=99\n") + i);
        }
        for (int i = 1; i <= 8; i++) {
            h.visit("/" + i);
        }
        House.due("eight are KEPT", h.it.count(4), 8);
        h.it.tick(1);
        h.visit("/1");
        House.due("KEPT again", h.it.count(4), 8);
        h.visit("/9");
        House.due("a ninth", h.it.count(4), 8);
        int requests = h.it.count(5);
        h.visit("/1");
        House.due("1 was KEPT anew, so it stays", h.it.count(5), requests);
        for (int i = 3; i <= 9; i++) {
            h.visit("/" + i);
        }
        House.due("so do the others", h.it.count(5), requests);
        h.visit("/2");
        House.due("2 went", h.it.count(5), requests + 1);
        h.visit("/3");
        House.due("and now 3", h.it.count(5), requests + 2);
    }

    private static void cookies() {
        House h = new House();
        h.server("//shop/a cookie=s:one\nx");
        h.server("//shop/b cookie=t:two\nx");
        h.server("//shop/c cookie=s:three\nx");
        h.server("//far/a cookie=s:far\nx");
        h.visit("//thop/a");
        h.visit("//shop/a");
        House.due("as it began", h.it.write(2), 0);
        h.visit("//shop/b");
        House.due("one", h.out(h.it.write(2)), "s=one");
        h.visit("//far/a");
        House.due("of the SITE alone", h.it.write(2), 0);
        h.visit("//thop/a");
        House.due("a SITE whose NAME ends alike", h.it.write(2), 0);
        h.visit("//shop/c");
        House.due("in order", h.out(h.it.write(2)), "s=one;t=two");
        h.visit("//shop/z");
        House.due("another one stands in its place", h.out(h.it.write(2)), "s=three;t=two");
        House.due("in all", h.it.count(3), 3);
        for (int i = 1; i <= 30; i++) {
            h.server("//z/a cookie=c" + i + ":v\nx");
            h.visit("//z/a");
            House.due("at most 20", h.it.count(3), Math.min(20, 3 + i));
        }
        h.server("//z/a cookie=c1:w\nx");
        h.visit("//z/a");
        h.visit("//z/b");
        House.due("one that was may change", h.out(h.it.write(2)).substring(0, 10), "c1=w;c2=v;");
    }

    private static void followed() {
        House h = new House();
        for (int i = 0; i < 7; i++) {
            h.server("//s" + i + "/a cookie=c:v to=//s" + (i + 1) + "/a#n\nbody " + i);
        }
        h.server("//s7/a\nend");
        h.visit("//s2/a#m");
        House.due("five are FOLLOWED", h.tree(), "<div>end</div>");
        House.due("with the first one's MARK", h.address(), "//s7/a#m");
        House.due("six REQUESTS", h.it.count(5), 6);
        h.visit("//s1/a");
        House.due("the sixth to is EMPTY", h.tree(), "<div></div>");
        House.due("at the last one FOLLOWED", h.address(), "//s6/a");
        House.due("six more", h.it.count(5), 12);
        House.due("their cookies are put", h.it.count(3), 6);
        h.server("//s8/a to= age=5\nself");
        h.visit("//s8/a");
        House.due("to itself", h.address(), "//s8/a");
        House.due("KEPT, so one REQUEST", h.it.count(5), 13);
    }
}
