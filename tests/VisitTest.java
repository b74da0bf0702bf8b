/** Promises 7 visit, 8 page, 9 history, 10 write, 11 tick. */
public final class VisitTest {
    public static void main(String[] args) {
        visit();
        page();
        history();
        twenty();
        write();
        tick();
        House.finish();
    }

    private static void visit() {
        House h = new House();
        h.server("//home/a\n<b>one</b>");
        House.due("visit", h.visit("a"), 1);
        House.due("its page", h.tree(), "<div><b>one</b></div>");
        House.due("its ADDRESS", h.address(), "//home/a");
        House.due("NO ADDRESS", h.visit("A"), -1);
        House.due("stays", h.address(), "//home/a");
        House.due("in HISTORY", h.it.count(7), 2);
        h.script("add self i");
        House.due("a MARK alone", h.visit("#m"), 1);
        House.due("the page stays", h.tree(), "<div><b>one</b><i></i></div>");
        House.due("no REQUEST", h.it.count(5), 1);
        House.due("HISTORY gets it", h.it.count(7), 3);
        House.due("with MARK", h.address(), "//home/a#m");
        House.due("another QUERY", h.visit("?#m"), 1);
        House.due("is FETCHED", h.it.count(5), 2);
        House.due("EMPTY", h.tree(), "<div></div>");
        h.visit("/a#m");
        h.script("add self i");
        House.due("nothing", h.visit(""), 1);
        House.due("without a MARK it is FETCHED", h.tree(), "<div><b>one</b></div>");
        House.due("and has none", h.address(), "//home/a");
    }

    private static void page() {
        House h = new House();
        h.server("//home/b\nbb");
        House.due("page", h.page("<p>a<b>c</b></p>"), 5);
        House.due("ADDRESS stays", h.address(), "//home/");
        House.due("HISTORY stays", h.it.count(7), 1);
        House.due("empty", h.page(""), 1);
        House.due("load adds", h.page("<b onload='add self i'>"), 3);
        House.due("load goes", h.page("<b onload='go /b'>x</b><i>y</i>"), 2);
        House.due("to that", h.address(), "//home/b");
        h.page("<input id=x>");
        h.it.press(2, 2);
        House.due("FOCUS", h.it.count(13), 1);
        h.script("wait 1 stop;wait 5 stop");
        House.due("TASKS", h.it.count(9), 2);
        h.page("<input>");
        House.due("FOCUS none", h.it.count(13), -1);
        House.due("all TASKS go", h.it.count(9), 0);
        House.due("a told page may have 2000 bytes", h.page("<p>" + "ab ".repeat(133) + "</p>" + "<b>c</b>".repeat(190) + "d"), 120);
    }

    private static void history() {
        House h = new House();
        h.server("//home/a\n<b>a</b>");
        h.server("//home/b\n<i onload='put n v'>b</i>");
        h.visit("a#m");
        h.visit("b");
        House.due("back", h.it.history(-1), 1);
        House.due("ADDRESS", h.address(), "//home/a#m");
        House.due("page", h.tree(), "<div><b>a</b></div>");
        House.due("HISTORY as it is", h.it.count(7), 3);
        House.due("where", h.it.count(8), 1);
        House.due("on", h.it.history(1), 2);
        House.due("load came twice", h.it.count(12), 2);
        House.due("too far on", h.it.history(1), -1);
        House.due("too far back", h.it.history(-3), -1);
        House.due("as far as can be", h.it.history(Integer.MIN_VALUE), -1);
        House.due("as far on", h.it.history(Integer.MAX_VALUE), -1);
        House.due("first", h.it.history(-2), 0);
        House.due("what is ahead goes", h.visit("c"), 1);
        House.due("two", h.it.count(7), 2);
        House.due("none ahead", h.it.history(1), -1);
        House.due("again", h.it.history(0), 1);
        h.server("//home/d to=/a\n");
        h.visit("/d");
        h.visit("/b");
        h.server("//home/a to=/e\n");
        House.due("to what it was FOLLOWED to then", h.it.history(-1), 2);
        House.due("as it is FOLLOWED now", h.address(), "//home/e");
        h.it.history(1);
        h.server("//home/b\n<i onload='go /c'>b</i>");
        House.due("scripts go on", h.it.history(0), 4);
        House.due("by a VISIT", h.address(), "//home/c");
    }

    private static void twenty() {
        House h = new House();
        for (int i = 1; i <= 25; i++) {
            h.visit("/" + i);
            House.due("HISTORY", h.it.count(7), Math.min(20, i + 1));
        }
        House.due("at its end", h.it.count(8), 19);
        h.it.history(-1);
        House.due("the one before", h.address(), "//home/24");
        h.it.history(-1);
        House.due("the one before that", h.address(), "//home/23");
        House.due("to its begin", h.it.history(-17), 0);
        House.due("the first ones went", h.address(), "//home/6");
        h.visit("#m");
        House.due("and what is ahead", h.it.count(7), 2);
    }

    private static void write() {
        House h = new House();
        House.due("another what", h.it.write(3), -1);
        House.due("below", h.it.write(-1), -1);
        House.due("nothing was asked", h.it.write(1), 0);
        h.server("//shop/a cookie=s:one to=b\n");
        h.visit("//shop/a#m");
        House.due("this page's", h.out(h.it.write(0)), "//shop/b#m");
        House.due("the last REQUEST's", h.out(h.it.write(1)), "//shop/b");
        House.due("its COOKIES", h.out(h.it.write(2)), "s=one");
    }

    private static void tick() {
        House h = new House();
        House.due("below 0", h.it.tick(-1), -1);
        House.due("above 1000", h.it.tick(1001), -1);
        House.due("THE CLOCK stays", h.it.count(6), 0);
        House.due("1000", h.it.tick(1000), 0);
        House.due("THE CLOCK", h.it.count(6), 1000);
        h.page("<b id=x>o</b>");
        h.script("wait 3 text x c;wait 1 text x a;wait 3 text x d;wait 2 wait 0 text x b");
        House.due("four wait", h.it.count(9), 4);
        House.due("none yet", h.it.tick(0), 0);
        House.due("one", h.it.tick(1), 1);
        House.due("a", h.tree(), "<div><b id=\"x\">a</b></div>");
        House.due("one that makes one", h.it.tick(1), 2);
        House.due("b", h.tree(), "<div><b id=\"x\">b</b></div>");
        House.due("two at one time", h.it.tick(1), 2);
        House.due("as they came", h.tree(), "<div><b id=\"x\">d</b></div>");
        h.script("wait 5 text x late;wait 2 text x soon");
        House.due("by time", h.it.tick(10), 2);
        House.due("the late one last", h.tree(), "<div><b id=\"x\">late</b></div>");
        h.script("wait 0 go /y;wait 1 text x z");
        House.due("also one that made the page go", h.it.tick(5), 1);
        House.due("that page", h.address(), "//home/y");
        House.due("all TASKS went", h.it.count(9), 0);
        h.script("wait 1 wait 0 stop;wait 0 ");
        House.due("THE CLOCK is at its end meanwhile", h.it.tick(7), 3);
    }
}
