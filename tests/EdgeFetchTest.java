/** What Part III says of REQUESTS, of what is KEPT, of COOKIES and of what is FOLLOWED: at its edges. */
public final class EdgeFetchTest {
    public static void main(String[] args) throws ReflectiveOperationException {
        House.run(EdgeFetchTest.class);
    }

    /** How many REQUESTS a visit makes. */
    private static int asks(House h, String reference) {
        int before = h.it.count(5);
        h.visit(reference);
        return h.it.count(5) - before;
    }

    // ---- what is KEPT

    static void timeAboveTheClock() {
        House.says(7, "if it is KEPT and its TIME is above THE CLOCK, that is the answer.");
        House h = new House();
        h.server("//home/a age=2\nold");
        h.visit("/a");
        h.server("//home/a age=2\nnew");
        House.due("TIME 2 at CLOCK 0", asks(h, "/a"), 0);
        h.it.tick(1);
        House.due("TIME 2 at CLOCK 1", asks(h, "/a"), 0);
        House.due("as it was then", h.name(1), "old");
        h.it.tick(1);
        House.due("TIME 2 at CLOCK 2", asks(h, "/a"), 1);
        House.due("as it is now", h.name(1), "new");
        h.it.tick(1);
        House.due("TIME 4 at CLOCK 3", asks(h, "/a"), 0);
    }

    static void ageAboveZero() {
        House.says(7, "if it has an age above 0, it is KEPT with the TIME THE CLOCK and age");
        House h = new House();
        h.server("//home/n\nx");
        h.server("//home/z age=0\nx");
        h.server("//home/o age=0001\nx");
        h.visit("/n");
        House.due("without age", h.it.count(4), 0);
        h.visit("/z");
        House.due("age 0", h.it.count(4), 0);
        House.due("asked again", asks(h, "/z"), 1);
        h.visit("/o");
        House.due("age 1", h.it.count(4), 1);
        House.due("not asked again", asks(h, "/o"), 0);
        h.it.tick(1);
        House.due("till CLOCK 1", asks(h, "/o"), 1);
    }

    static void theGreatestAge() {
        House.says(7, "if it has an age above 0, it is KEPT with the TIME THE CLOCK and age");
        House h = new House();
        h.server("//home/a age=9999\nx");
        h.it.tick(7);
        h.visit("/a");
        for (int i = 0; i < 9; i++) {
            h.it.tick(1000);
        }
        h.it.tick(998);
        House.due("at CLOCK 10005", asks(h, "/a"), 0);
        h.it.tick(1);
        House.due("at CLOCK 10006", asks(h, "/a"), 1);
    }

    static void aMarkIsOfNoMatter() {
        House.says(7, "TO FETCH an ADDRESS (its MARK is of no matter):");
        House h = new House();
        h.server("//home/a age=5\nx");
        House.due("with a MARK", asks(h, "/a#m"), 1);
        h.visit("/b");
        House.due("without", asks(h, "/a"), 0);
        h.visit("/b");
        House.due("with another", asks(h, "/a#n"), 0);
        House.due("another QUERY is another ADDRESS", asks(h, "/a?"), 1);
    }

    static void eightAtMost() {
        House.says(7, "(8 at most are; in place of the one for its ADDRESS, else a ninth in place of the one that was KEPT longest ago).");
        House h = new House();
        for (int i = 1; i <= 9; i++) {
            h.server("//home/" + i + " age=99\n");
        }
        for (int i = 1; i <= 8; i++) {
            h.visit("/" + i);
            House.due(i + " are KEPT", h.it.count(4), i);
        }
        for (int i = 1; i <= 8; i++) {
            House.due(i + " is KEPT", asks(h, "/" + i), 0);
        }
        House.due("a ninth", asks(h, "/9"), 1);
        House.due("eight", h.it.count(4), 8);
        for (int i = 2; i <= 9; i++) {
            House.due(i + " is KEPT still", asks(h, "/" + i), 0);
        }
        House.due("the first went", asks(h, "/1"), 1);
        House.due("now the second", asks(h, "/2"), 1);
        House.due("and the ninth is there", asks(h, "/9"), 0);
    }

    static void inPlaceOfTheOneForItsAddress() {
        House.says(7, "in place of the one for its ADDRESS, else a ninth");
        House h = new House();
        for (int i = 1; i <= 8; i++) {
            h.server("//home/" + i + " age=" + (i == 8 ? 1 : 99) + "\n");
            h.visit("/" + i);
        }
        h.it.tick(1);
        House.due("a stale one is asked for", asks(h, "/8"), 1);
        House.due("eight are KEPT", h.it.count(4), 8);
        for (int i = 1; i <= 8; i++) {
            House.due(i + " is there", asks(h, "/" + i), 0);
        }
    }

    static void keptAgainIsKeptNow() {
        House.says(7, "What is KEPT again counts as KEPT now;");
        House h = new House();
        for (int i = 1; i <= 9; i++) {
            h.server("//home/" + i + " age=" + (i == 1 ? 1 : 99) + "\n");
        }
        for (int i = 1; i <= 8; i++) {
            h.visit("/" + i);
        }
        h.it.tick(1);
        h.visit("/1");
        h.visit("/9");
        House.due("1 stays", asks(h, "/1"), 0);
        House.due("2 went", asks(h, "/2"), 1);
    }

    static void severalAtOneClock() {
        House.says(7, "of several at one CLOCK the order in which they were counts.");
        House h = new House();
        for (int i = 1; i <= 9; i++) {
            h.server("//home/" + i + " age=99\n");
        }
        int[] order = {5, 3, 8, 1, 7, 2, 6, 4, 9};
        for (int i : order) {
            h.visit("/" + i);
        }
        House.due("3 is there", asks(h, "/3"), 0);
        House.due("5 went", asks(h, "/5"), 1);
        House.due("now 3 went", asks(h, "/3"), 1);
        House.due("1 is there", asks(h, "/1"), 0);
    }

    static void staleOnesHoldTheirPlace() {
        House.says(7, "else a ninth in place of the one that was KEPT longest ago");
        House h = new House();
        for (int i = 1; i <= 9; i++) {
            h.server("//home/" + i + " age=" + (i == 2 ? 1 : 99) + "\n");
        }
        for (int i = 1; i <= 8; i++) {
            h.visit("/" + i);
        }
        h.it.tick(5);
        h.visit("/9");
        House.due("not the stale one, the first one went", asks(h, "/1"), 1);
    }

    // ---- REQUESTS

    static void requestsAreTold() {
        House.says(10, "(they are counted; the last one's ADDRESS and the COOKIES of the SITE as it began, in order as they came, are told):");
        House h = new House();
        h.server("//shop/a cookie=b:one\n");
        h.server("//shop/b cookie=a:two age=9\n");
        House.due("one", asks(h, "//shop/a"), 1);
        House.due("its own cookie came behind its begin", h.it.write(2), 0);
        House.due("two", asks(h, "//shop/b"), 1);
        House.due("its ADDRESS", h.out(h.it.write(1)), "//shop/b");
        House.due("the cookie that was", h.out(h.it.write(2)), "b=one");
        h.visit("//far/c");
        House.due("none of this SITE", h.it.write(2), 0);
        House.due("a KEPT one is no REQUEST", asks(h, "//shop/b"), 0);
        House.due("so the last one is told", h.out(h.it.write(1)), "//far/c");
        h.server("//shop/d to=//far/d#n\n");
        h.visit("//shop/d#m");
        House.due("a MARK is of no matter", h.out(h.it.write(1)), "//far/d");
        h.visit("//shop/c");
        House.due("in order as they came", h.out(h.it.write(2)), "b=one;a=two");
    }

    static void elseItIsARequest() {
        House.says(7, "Else it is a REQUEST");
        House h = new House();
        h.server("//home/a age=1\n");
        House.due("not KEPT", asks(h, "/a"), 1);
        House.due("KEPT", asks(h, "/a"), 0);
        h.it.tick(1);
        House.due("stale", asks(h, "/a"), 1);
        House.due("no ANSWER", asks(h, "/b"), 1);
    }

    static void empty() {
        House.says(7, "the ANSWER there, or EMPTY (no BODY, no FIELDS) if there is none;");
        House h = new House();
        h.page("<p>x");
        House.due("nothing is there", asks(h, "/none"), 1);
        House.due("an empty page", h.tree(), "<div></div>");
        House.due("at that ADDRESS", h.address(), "//home/none");
        House.due("not KEPT", asks(h, "/none"), 1);
        h.page("<p id=x>o");
        h.script("get x //far/none");
        House.due("nor open", h.it.count(10), 1);
    }

    // ---- COOKIES

    static void twentyCookies() {
        House.says(7, "COOKIES: of a SITE, a NAME and a VALUE (a NAME), at most 20 in all;");
        House h = new House();
        for (int i = 1; i <= 19; i++) {
            h.server("//s/ cookie=namefo" + (char) ('a' + i) + ":valueis" + (char) ('a' + i) + "\n");
            h.visit("//s/");
        }
        h.server("//t/ cookie=a:b\n");
        h.visit("//t/");
        House.due("twenty, of two SITES", h.it.count(3), 20);
        House.says(7, "its cookie is put (if there are 20, and it is new, it is not);");
        h.server("//s/ cookie=new:one\n");
        h.visit("//s/");
        House.due("a new NAME", h.it.count(3), 20);
        h.server("//u/ cookie=a:b\n");
        h.visit("//u/");
        House.due("a new SITE", h.it.count(3), 20);
        h.server("//t/ cookie=a:c\n");
        h.visit("//t/");
        h.visit("//t/x");
        House.due("one that was", h.out(h.it.write(2)), "a=c");
        h.visit("//s/x");
        House.due("the others of the first SITE", h.it.write(2), 19 * 16 + 18);
        h.visit("//u/x");
        House.due("none of the new SITE", h.it.write(2), 0);
    }

    static void anotherInItsPlace() {
        House.says(7, "another of the same SITE and NAME stands in its place.");
        House h = new House();
        String[] texts = {"//s/ cookie=a:one", "//s/ cookie=b:two", "//t/ cookie=a:far", "//s/ cookie=a:new"};
        for (String text : texts) {
            h.server(text + "\n");
            h.visit(text.substring(0, 4));
        }
        House.due("three", h.it.count(3), 3);
        h.visit("//s/x");
        House.due("in its place", h.out(h.it.write(2)), "a=new;b=two");
        h.visit("//t/x");
        House.due("another SITE's stays", h.out(h.it.write(2)), "a=far");
    }

    static void longestCookies() {
        House.says(10, "its COOKIES as NAME=VALUE with ; between (2)");
        House h = new House();
        for (int i = 0; i < 20; i++) {
            h.server("//s/ cookie=abcdefg" + (char) ('a' + i) + ":stuvwxyz\n");
            h.visit("//s/");
        }
        h.visit("//s/");
        House.due("twenty of the longest", h.it.write(2), 20 * 17 + 19);
        House.due("the first", h.it.out(0), 'a');
        House.due("between", h.it.out(17), ';');
        House.due("the last byte", h.it.out(358), 'z');
        House.due("no more", h.it.out(359), -1);
    }

    // ---- what is FOLLOWED

    private static House chain(int tos, String fields) {
        House h = new House();
        for (int i = 1; i <= tos; i++) {
            h.server("//s" + i + "/ to=//s" + (i + 1) + "/" + fields + "\nbody" + i);
        }
        h.server("//s" + (tos + 1) + "/" + fields + "\nend");
        return h;
    }

    static void fiveAreFollowed() {
        House.says(7, "the answer that has the sixth to behind one another is EMPTY (its ADDRESS the last one FOLLOWED).");
        House h = chain(5, "");
        House.due("five tos", asks(h, "//s1/"), 6);
        House.due("their end", h.name(1), "end");
        House.due("its ADDRESS", h.address(), "//s6/");
    }

    static void theSixthIsEmpty() {
        House.says(7, "the answer that has the sixth to behind one another is EMPTY (its ADDRESS the last one FOLLOWED).");
        House h = chain(6, "");
        House.due("six tos", asks(h, "//s1/"), 6);
        House.due("no BODY", h.tree(), "<div></div>");
        House.due("the last one FOLLOWED", h.address(), "//s6/");
        House.due("from the second on there are five", asks(h, "//s2/"), 6);
        House.due("so the end", h.name(1), "end");
    }

    static void theSixthIsNotOpen() {
        House.says(28, "the answer that has the sixth to behind one another is EMPTY (its ADDRESS the last one FOLLOWED).");
        House h = chain(6, " open");
        h.page("<b id=x>o</b>");
        h.script("get x //s1/");
        House.due("no FIELDS", h.it.count(10), 1);
        House.due("so nothing comes", h.name(2), "o");
        h.script("get x //s2/");
        House.due("one less is open", h.name(2), "end");
    }

    static void keptOnesAreFollowed() {
        House.says(7, "An ANSWER with to, also a KEPT one, is FOLLOWED by fetching that ADDRESS;");
        House h = new House();
        h.server("//home/a age=9 to=b\nx");
        h.server("//home/b\nfirst");
        House.due("both are asked", asks(h, "/a"), 2);
        h.server("//home/b\nsecond");
        h.server("//home/a\nplain");
        House.due("only the second is", asks(h, "/a"), 1);
        House.due("FOLLOWED", h.name(1), "second");
        House.due("to its ADDRESS", h.address(), "//home/b");
    }

    static void keptOnesCountToSix() {
        House.says(7, "An ANSWER with to, also a KEPT one, is FOLLOWED by fetching that ADDRESS;");
        House h = new House();
        h.server("//home/a age=9 to=\nx");
        House.due("to itself, KEPT at once", asks(h, "/a"), 1);
        House.due("EMPTY at the sixth", h.tree(), "<div></div>");
        House.due("there", h.address(), "//home/a");
        h.server("//home/c to=\nx");
        House.due("to itself, never KEPT", asks(h, "/c"), 6);
    }
}
