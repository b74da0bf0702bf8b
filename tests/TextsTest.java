/** Promises 1 to 4: a new object, feed, end, out; and what holds for all calls that take a text. */
public final class TextsTest {
    public static void main(String[] args) {
        newObject();
        feed();
        end();
        out();
        textCalls();
        House.finish();
    }

    private static void newObject() {
        House h = new House();
        int[] first = {1, 0, 0, 0, 0, 0, 0, 1, 0, 0, 0, 0, 0, -1, 0, 0, 0};
        for (int what = 0; what < first.length; what++) {
            House.due("new: count(" + what + ")", h.it.count(what), first[what]);
        }
        House.due("new: out(0)", h.it.out(0), -1);
        House.due("new: end(0)", h.it.end(0), 0);
        House.due("new: end(1)", h.it.end(1), -1);
        House.due("new: found(0)", h.it.found(0), -1);
        House.due("new: fault(0, 0)", h.it.fault(0, 0), -1);
        House.due("new: tree", h.tree(), "<div></div>");
        House.due("new: address", h.address(), "//home/");
        House.due("new: last REQUEST", h.it.write(1), 0);
        House.due("new: its COOKIES", h.it.write(2), 0);
        House.due("new: history(0)", h.it.history(0), 0);
        House.due("new: history(-1)", h.it.history(-1), -1);
        House.due("new: box(0, 2)", h.it.box(0, 2), 48);
    }

    private static void feed() {
        House h = new House();
        House.due("feed", h.it.feed(0x61626364, 0x65666768, 0x696a6b6c, 0x6d6e6f70, 0x71727374), 20);
        House.due("feed again", h.it.feed(0x75767778, 0x797a0000, 0, 0, 0), 40);
        h.it.end(26);
        h.it.page();
        House.due("bytes come in order", h.name(1), "abcdefghijklmnopqrstuvwxyz");
        for (int i = 1; i <= 100; i++) {
            House.due("feed " + i, h.it.feed(0, 0, 0, 0, 0), 20 * i);
        }
        House.due("feed beyond 2000", h.it.feed(0, 0, 0, 0, 0), -1);
        House.due("none came", h.it.end(2000), 2000);
        House.due("not more than 2000", h.it.end(2001), -1);
        House.due("1981", h.it.end(1981), 1981);
        House.due("1981 and 20", h.it.feed(0, 0, 0, 0, 0), -1);
        House.due("1980", h.it.end(1980), 1980);
        House.due("1980 and 20", h.it.feed(-1, -1, -1, -1, -1), 2000);
    }

    private static void end() {
        House h = new House();
        h.it.feed(0x61626364, 0, 0, 0, 0);
        House.due("end(-1)", h.it.end(-1), -1);
        House.due("end(21)", h.it.end(21), -1);
        House.due("end(20)", h.it.end(20), 20);
        House.due("end(3)", h.it.end(3), 3);
        House.due("end(4)", h.it.end(4), -1);
        h.it.page();
        House.due("the first ones alone", h.name(1), "abc");
    }

    private static void out() {
        House h = new House();
        House.due("write(0)", h.it.write(0), 7);
        House.due("out(0)", h.it.out(0), '/');
        House.due("out(2)", h.it.out(2), 'h');
        House.due("out(6)", h.it.out(6), '/');
        House.due("out(7)", h.it.out(7), -1);
        House.due("out(-1)", h.it.out(-1), -1);
        House.due("out(least)", h.it.out(Integer.MIN_VALUE), -1);
        House.due("what is told as NONE", h.it.name(5), -1);
        House.due("stays out", h.it.out(6), '/');
        House.due("the latest alone", h.it.name(0), 3);
        House.due("no more", h.it.out(3), -1);
    }

    private static void textCalls() {
        House h = new House();
        House.due("resolve", h.resolve("a"), 8);
        House.due("the tape is empty behind it", h.it.end(1), -1);
        House.due("resolve NONE", h.resolve("A"), -1);
        House.due("empty behind NONE", h.it.end(1), -1);
        String[] bad = {"\t", "ab\u007f", "abc\u00ff", "a\u0000b\u0001"};
        int[] at = {0, 2, 3, 1};
        for (int i = 0; i < bad.length; i++) {
            House.due("resolve bytes", h.resolve(bad[i]), -1000 - at[i]);
            House.due("server bytes", h.server(bad[i]), -1000 - at[i]);
            House.due("visit bytes", h.visit(bad[i]), -1000 - at[i]);
            House.due("page bytes", h.page(bad[i]), -1000 - at[i]);
            House.due("select bytes", h.select(bad[i]), -1000 - at[i]);
            House.due("script bytes", h.script(bad[i]), -1000 - at[i]);
            House.due("attribute bytes", h.attribute(0, bad[i]), -1000 - at[i]);
            House.due("empty behind WRONG", h.it.end(1), -1);
        }
        House.due("WRONG bytes go ahead of all else", h.select("..\u0001"), -1002);
        House.due("also behind what else is WRONG", h.attribute(99, "9a\u0001"), -1002);
        House.due("WRONG texts change nothing", h.tree(), "<div></div>");
    }
}
