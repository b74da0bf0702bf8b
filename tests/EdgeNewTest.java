/** Promise 1: each call as the first one on a new object. */
public final class EdgeNewTest {
    private static final String AS_TOLD = "`BrowserHouse()`: As told.";

    public static void main(String[] args) throws ReflectiveOperationException {
        House.run(EdgeNewTest.class);
    }

    static void texts() {
        House.says(1, "THE OUT is empty.");
        House.due("out(0)", new House().it.out(0), -1);
        House.says(1, AS_TOLD);
        House.due("feed", new House().it.feed(0, 0, 0, 0, 0), 20);
        House.due("end(0)", new House().it.end(0), 0);
        House.due("end(1)", new House().it.end(1), -1);
        House.due("end(-1)", new House().it.end(-1), -1);
        House.due("out(-1)", new House().it.out(-1), -1);
    }

    static void addresses() {
        House.says(1, "the page is empty, at //home/, HISTORY has it.");
        House h = new House();
        House.due("resolve()", h.it.resolve(), 7);
        House.due("the base", h.out(7), "//home/");
        House.due("write(0)", new House().address(), "//home/");
        House.due("history(0)", new House().it.history(0), 0);
        House.due("history(-1)", new House().it.history(-1), -1);
        House.due("history(1)", new House().it.history(1), -1);
        h = new House();
        House.due("visit()", h.it.visit(), 1);
        House.due("HISTORY", h.it.count(7), 2);
        House.due("back", h.it.history(-1), 0);
        House.due("at //home/", h.address(), "//home/");
        House.says(1, AS_TOLD);
        House.due("write(1)", new House().it.write(1), 0);
        House.due("write(2)", new House().it.write(2), 0);
        House.due("write(3)", new House().it.write(3), -1);
        House.due("server()", new House().it.server(), -1000);
        House.due("page()", new House().it.page(), 1);
        House.due("tick(0)", new House().it.tick(0), 0);
        House.due("tick(1000)", new House().it.tick(1000), 0);
    }

    static void theTree() {
        House.says(1, "the page is empty, at //home/, HISTORY has it.");
        int[] root = {0, -1, 0, 0, 0, 0, -1};
        for (int what = 0; what < root.length; what++) {
            House.due("node(0, " + what + ")", new House().it.node(0, what), root[what]);
        }
        House.due("node(1, 0)", new House().it.node(1, 0), -1);
        House.due("node(119, 0)", new House().it.node(119, 0), -1);
        House.due("kid(0, 0)", new House().it.kid(0, 0), -1);
        House.due("name(0)", new House().name(0), "div");
        House.due("name(1)", new House().it.name(1), -1);
        House.due("serialise(0)", new House().tree(), "<div></div>");
        House.due("serialise(1)", new House().it.serialise(1), -1);
        House.due("fault(0, 0)", new House().it.fault(0, 0), -1);
        House.says(1, AS_TOLD);
        House.due("attribute(0)", new House().it.attribute(0), -1000);
        House.due("attribute(0) of id", new House().attribute(0, "id"), -1);
        House.due("select()", new House().it.select(), -1000);
        House.due("select() of div", new House().select("div"), 1);
        House.due("found(0)", new House().it.found(0), -1);
        House.due("style of THE ROOT", new House().styles(0), "0 63 -1 0 0 0 -1 -1 1 0 0");
        House.due("style(1, 0)", new House().it.style(1, 0), -1);
    }

    static void layoutAndPicture() {
        House.says(1, "the SCREEN is as wide as told (20 .. 96, 48 at first).");
        House.due("THE ROOT's BOX", new House().box(0), "0 0 48 0");
        House.says(1, AS_TOLD);
        House.due("screen(48)", new House().it.screen(48), 1);
        House.due("screen(19)", new House().it.screen(19), -1);
        House.due("box(1, 0)", new House().it.box(1, 0), -1000);
        House.due("word(0, 0)", new House().it.word(0, 0), -1000);
        House.due("point(0, 0)", new House().it.point(0, 0), -1);
        House.due("top(0, 0)", new House().it.top(0, 0), -1);
    }

    static void acts() {
        House.says(1, AS_TOLD);
        House.due("press(0, 0)", new House().it.press(0, 0), -1);
        House.due("key(97)", new House().it.key(97), -1);
        House.due("script()", new House().it.script(), 0);
        House.due("value(0)", new House().it.value(0), -1);
        House.due("checked(0)", new House().it.checked(0), -1);
    }

    static void counts() {
        House.says(1, "At first: no ANSWERS, no COOKIES, THE CLOCK 0;");
        House.due("ANSWERS", new House().it.count(2), 0);
        House.due("COOKIES", new House().it.count(3), 0);
        House.due("THE CLOCK", new House().it.count(6), 0);
        House.says(1, AS_TOLD);
        int[] first = {1, 0, 0, 0, 0, 0, 0, 1, 0, 0, 0, 0, 0, -1, 0, 0, 0, -1};
        for (int what = 0; what < first.length; what++) {
            House.due("count(" + what + ")", new House().it.count(what), first[what]);
        }
    }

    static void objectsOfTheirOwn() {
        House.says(1, AS_TOLD);
        House one = new House();
        House other = new House();
        one.server("//home/ cookie=a:b\n<p>x");
        one.visit("");
        one.it.tick(5);
        one.it.screen(96);
        one.tape("abc");
        House.due("ANSWERS of another object", other.it.count(2), 0);
        House.due("its page", other.tree(), "<div></div>");
        House.due("its CLOCK", other.it.count(6), 0);
        House.due("its SCREEN", other.it.box(0, 2), 48);
        House.due("its tape", other.it.end(1), -1);
    }
}
