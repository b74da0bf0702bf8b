/** Promise 28: script, and all that STEPS and TASKS do. */
public final class ScriptTest {
    public static void main(String[] args) {
        reading();
        wrongSteps();
        text();
        classes();
        addAndDel();
        val();
        get();
        stores();
        tasks();
        twoHundred();
        House.finish();
    }

    private static House shown(String page) {
        House h = new House();
        h.page(page);
        return h;
    }

    private static void reading() {
        House h = shown("<b id=x>o</b>");
        House.due("none", h.script(""), 0);
        House.due("STEPS of nothing", h.script(" ;\n;; "), 0);
        House.due("are no WRONG ones", h.it.count(11), 0);
        House.due("three", h.script(" put a b;\n text x n;zip;stop"), 3);
        House.due("run", h.it.count(12), 3);
        House.due("WRONG", h.it.count(11), 1);
        House.due("done", h.name(2), "n");
        h.script("text x  a b ; text x");
        House.due("a VALUE goes up to the ;", h.name(2), " a b ");
        h.page("<b><i id=x></i></b><u id=x></u>");
        h.script("text x v");
        House.due("the first one in the tree's order", h.tree(), "<div><b><i id=\"x\">v</i></b><u id=\"x\"></u></div>");
        h.page("<b id=self></b>");
        h.script("text self v");
        House.due("self is THE ROOT here", h.tree(), "<div>v</div>");
    }

    private static void wrongSteps() {
        House h = shown("<b id=x>o</b>");
        String[] rows = {
            "zip", "text", "text x", "text y v", "text X v", "text  x v", "class x", "add x", "add x B", "add x b ", "add x b c",
            "del", "del y", "del x ", "val x", "go", "get x", "get y /a", "put a", "put a b ", "put a B", "put A b", "put  a b",
            "read x", "read x B", "read y a", "wait", "wait 5", "wait x stop", "wait 12345 stop", "wait  5 stop", "stop ", "Stop",
            "stop x", "text\nx v", "text abcdefghi v", "add x abcdefghi",
        };
        for (int i = 0; i < rows.length; i++) {
            House.due("WRONG: " + rows[i], h.script(rows[i]), 0);
            House.due("counted: " + rows[i], h.it.count(11), i + 1);
        }
        House.due("nothing was done", h.tree(), "<div><b id=\"x\">o</b></div>");
        House.due("no TASK", h.it.count(9), 0);
        House.due("no STORE", h.it.count(15), 0);
        House.due("none run", h.it.count(12), 0);
    }

    private static void text() {
        House h = shown("<p id=x>a<b>c</b></p><br id=y><input id=z>");
        House.due("text", h.script("text x <q>"), 1);
        House.due("all in it goes, one comes", h.tree(), "<div><p id=\"x\">&lt;q&gt;</p><br id=\"y\"><input id=\"z\"></div>");
        House.due("its number", h.it.kid(1, 0), 2);
        House.due("of no bytes", h.script("text x "), 1);
        House.due("none", h.it.node(1, 2), 0);
        House.due("of EMPTY TAGS", h.script("text y v;text z v"), 2);
        House.due("passed over", h.it.count(0), 4);
        h.script("text x " + "v".repeat(450));
        House.due("cut to 400", h.it.node(h.it.kid(1, 0), 5), 400);
        h.page("<b>".repeat(19) + "<i id=x>");
        House.due("20 deep", h.script("text x v"), 1);
        House.due("passed over", h.it.node(20, 2), 0);
        h.page("<i id=x></i><b id=y>q</b>" + "<br>".repeat(116));
        House.due("full", h.it.count(0), 120);
        h.script("text x v");
        House.due("passed over when there are 120 NODES", h.it.node(1, 2), 0);
        h.script("text y v");
        House.due("not where one lies", h.name(3), "v");
        h.script("text self v");
        House.due("THE ROOT too", h.tree(), "<div>v</div>");
    }

    private static void classes() {
        House h = shown("<b id=x>o</b><i id=y a b c></i>");
        h.script("class x k m");
        House.due("class", h.out(h.attribute(1, "class")), "k m");
        h.script("class x " + "n".repeat(70));
        House.due("in place of one, cut to 60", h.out(h.attribute(1, "class")), "n".repeat(60));
        House.due("one ATTRIBUTE more", h.it.node(1, 4), 2);
        h.script("class x ");
        House.due("of no bytes", h.attribute(1, "class"), 0);
        House.due("a fifth", h.script("class y k"), 1);
        House.due("is passed over", h.it.node(3, 4), 4);
        h.page("<style>.k{color:5}</style><b id=x>o</b>");
        House.due("no color", h.it.style(3, 1), 63);
        h.script("class x k");
        House.due("styles follow", h.it.style(3, 1), 5);
    }

    private static void addAndDel() {
        House h = shown("<p id=x>a</p><br id=y>");
        House.due("add", h.script("add x b;add x zz;add y b"), 3);
        House.due("last in it", h.tree(), "<div><p id=\"x\">a<b></b><zz></zz></p><br id=\"y\"></div>");
        h.script("add x input");
        House.due("an input", h.value(6), "");
        House.due("not CHECKED", h.it.checked(6), 0);
        House.due("del THE ROOT", h.script("del self"), 1);
        House.due("is passed over", h.it.count(0), 7);
        House.due("del", h.script("del x;del y"), 2);
        House.due("gone", h.tree(), "<div></div>");
        h.page("<b>".repeat(19) + "<i id=x>");
        House.due("20 deep", h.script("add x b"), 1);
        House.due("passed over", h.it.count(0), 21);
        h.page("<br>".repeat(119));
        House.due("120", h.script("add self b"), 1);
        House.due("passed over too", h.it.count(0), 120);
    }

    private static void val() {
        House h = shown("<input id=x><b id=y>o</b>");
        House.due("val", h.script("val x a value of over twenty-four"), 1);
        House.due("cut to 24", h.value(1), "a value of over twenty-f");
        House.due("of no bytes", h.script("val x "), 1);
        House.due("nothing", h.value(1), "");
        House.due("no input", h.script("val y v"), 1);
        House.due("passed over", h.name(3), "o");
    }

    private static void get() {
        House h = shown("<b id=x>o</b><br id=y>");
        h.server("//home/a\n" + "z".repeat(300));
        h.server("//far/a\nfar");
        h.server("//far/b open\nopen");
        h.server("//far/c to=//home/d\n");
        h.server("//home/c to=//far/a\n");
        h.server("//home/e to=//far/b\n");
        h.server("//home/d\n&lt;d");
        h.script("get x a");
        House.due("200 bytes", h.it.node(2, 5), 200);
        House.due("of another SITE", h.script("get x //far/a"), 1);
        House.due("a REFUSAL", h.it.count(10), 1);
        House.due("stays", h.it.node(2, 5), 200);
        h.script("get x //far/b");
        House.due("open", h.name(2), "open");
        h.script("get x //far/c");
        House.due("the last ADDRESS FOLLOWED counts", h.name(2), "&lt;d");
        h.script("get x c");
        House.due("here too", h.it.count(10), 2);
        h.script("get x e");
        House.due("that answer is open", h.name(2), "open");
        h.script("get x none");
        House.due("EMPTY", h.it.node(1, 2), 0);
        int requests = h.it.count(5);
        House.due("NO ADDRESS", h.script("get x NO"), 1);
        House.due("passed over", h.it.count(5), requests);
        h.script("get y a");
        House.due("of an EMPTY TAG it is FETCHED", h.it.count(5), requests + 1);
        House.due("the page stays", h.address(), "//home/");
    }

    private static void stores() {
        House h = shown("<b id=x>o</b>");
        h.script("put a v1;read x a");
        House.due("read", h.name(2), "v1");
        h.script("put a v2;read x a");
        House.due("in its place", h.name(2), "v2");
        h.script("read x b");
        House.due("nothing", h.it.node(1, 2), 0);
        h.visit("//shop/");
        h.script("read self a");
        House.due("another SITE's", h.tree(), "<div></div>");
        StringBuilder many = new StringBuilder();
        for (int i = 0; i < 25; i++) {
            many.append("put n").append(i).append(" w;");
        }
        House.due("25 run", h.script(many.toString()), 25);
        House.due("20 of all SITES together", h.it.count(15), 20);
        h.script("put n3 z;read self n3");
        House.due("a full one still changes", h.tree(), "<div>z</div>");
        h.script("read self n19");
        House.due("what was passed over", h.tree(), "<div></div>");
        h.visit("//home/");
        h.script("read self a");
        House.due("this SITE's again", h.tree(), "<div>v2</div>");
    }

    private static void tasks() {
        House h = shown("<b id=x onpress='wait 1 text self a;wait 2 text x b'>o</b>");
        h.it.press(1, 1);
        House.due("two", h.it.count(9), 2);
        h.script("del x");
        House.due("one whose self went is done all the same", h.it.tick(1), 1);
        House.due("WRONG then", h.it.count(11), 1);
        h.page("<b onload='wait 1 text self a'></b><i onload='wait 2 text self b'></i><u onload='wait 3 text self c'></u>");
        h.it.tick(2);
        House.due("each has its self", h.tree().replaceAll(" onload=\"[^\"]*\"", ""), "<div><b>a</b><i>b</i><u></u></div>");
        h.it.tick(1);
        House.due("the last one too", h.tree().replaceAll(" onload=\"[^\"]*\"", ""), "<div><b>a</b><i>b</i><u>c</u></div>");
        h.page("<b id=x>o</b>");
        h.script("wait 0 text x " + "v".repeat(70));
        h.it.tick(0);
        House.due("the STEP is cut to 60 bytes", h.it.node(2, 5), 53);
        h.script("wait 1 zip");
        House.due("read when its time has come", h.it.count(11), 1);
        h.it.tick(1);
        House.due("and counted", h.it.count(11), 2);
        int run = h.it.count(12);
        h.script("wait 0 ");
        House.due("a TASK of no bytes", h.it.tick(0), 1);
        House.due("only the wait was run", h.it.count(12), run + 1);
        h.script("wait 1 stop;".repeat(25));
        House.due("20 at most", h.it.count(9), 20);
        House.due("more are passed over, and counted", h.it.count(12), run + 26);
        House.due("all of them", h.it.tick(1), 20);
    }

    private static void twoHundred() {
        House h = shown("<b id=x>o</b>");
        House.due("200 STEPS", h.script("put a b;".repeat(220)), 200);
        House.due("WRONG ones count", h.script("zip;".repeat(150) + "put a b;".repeat(80)), 50);
        House.due("a VISIT by the 200th", h.script("put a b;".repeat(199) + "go /y"), 200);
        House.due("is done", h.address(), "//home/y");
        h.server("//home/z\n<b onload='put a b;go /z'></b>");
        h.visit("/z");
        House.due("pages that go round", h.it.count(5), 1 + 1 + 100);
        House.due("HISTORY", h.it.count(7), 20);
        String step = "onpress='put a b;put a b;put a b;put a b;put a b;put a b'>";
        String open = ("<div " + step).repeat(16);
        h.page("<a href=/q " + step + open + "<p>x");
        House.due("102 STEPS, then the DEFAULT", h.it.press(3, 3), 19);
        House.due("VISIT", h.address(), "//home/q");
        String twelve = "onpress='" + "zip;".repeat(12) + "'>";
        h.page("<a href=/r onpress='" + "zip;".repeat(8) + "'>" + ("<b " + twelve).repeat(16) + "x");
        h.it.press(1, 1);
        House.due("with the 200th no DEFAULT", h.address(), "//home/q");
        h.page("<b id=x>o</b>");
        h.script("wait 0 stop;".repeat(5));
        h.server("//home/w\n" + "<b onload='" + "wait 0 zip;".repeat(5) + "'></b>");
        House.due("five", h.it.tick(0), 5);
        h.visit("/w");
        House.due("they wait", h.it.count(9), 5);
        House.due("done", h.it.tick(0), 5);
        h.script("wait 0 put a b;".repeat(20) + "zip;".repeat(180));
        House.due("none left in that call", h.it.count(9), 20);
        House.due("a new call", h.it.tick(0), 20);
        House loop = new House();
        loop.server("//home/l\n<b onload='wait 0 go /l'></b>");
        loop.visit("/l");
        House.due("TASKS that make TASKS", loop.it.tick(0), 100);
        House.due("what the 200th STEP made waits", loop.it.count(9), 1);
        House.due("for the next tick, of 0 too", loop.it.tick(0), 100);
    }
}
