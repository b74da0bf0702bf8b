/** Promises 7 visit, 8 page, 9 history, 10 write, 11 tick: at their edges. */
public final class EdgeVisitTest {
    private static final String HISTORY_GETS = "HISTORY (20 at most, the first goes) loses what is ahead and gets it;";

    public static void main(String[] args) throws ReflectiveOperationException {
        House.run(EdgeVisitTest.class);
    }

    /** A page with FOCUS on its input (NODE 1) and two TASKS that wait. */
    private static House busy() {
        House h = new House();
        h.page("<input><b id=x>o</b>");
        h.it.press(2, 2);
        h.script("wait 5 stop;wait 9 stop");
        return h;
    }

    // ---- promise 7

    static void visitAnswers() {
        House.says(7, "A VISIT of the text, a REFERENCE: 1; NONE if it is NO ADDRESS.");
        House h = new House();
        House.due("an ADDRESS", h.visit("//a/b"), 1);
        House.due("a MARK alone", h.visit("#m"), 1);
        House.due("nothing", h.visit(""), 1);
        int history = h.it.count(7);
        House.due("NO ADDRESS", h.visit("//"), -1);
        House.due("seven SEGMENTS", h.visit("/1/2/3/4/5/6/7"), -1);
        House.due("HISTORY stays", h.it.count(7), history);
        House.due("the page too", h.address(), "//a/b");
    }

    static void visitIsWrongForBytesAlone() {
        House.says(7, "WRONG for bytes alone.");
        House h = new House();
        House.due("no byte of texts", h.visit("a\u0001"), -1001);
        House.due("bytes of texts, but NO ADDRESS", h.visit("A b"), -1);
    }

    static void noAddressIsNothing() {
        House.says(7, "A VISIT of a REFERENCE (against this page's ADDRESS): NO ADDRESS: nothing.");
        House h = busy();
        h.visit("A");
        House.due("FOCUS stays", h.it.count(13), 1);
        House.due("TASKS stay", h.it.count(9), 2);
        House.due("HISTORY stays", h.it.count(7), 1);
        House.due("no REQUEST", h.it.count(5), 0);
    }

    static void markAlone() {
        House.says(7, "With the same SITE, PATH and QUERY, and a MARK: the page stays, HISTORY gets it.");
        House h = busy();
        h.visit("#m");
        House.due("the page stays", h.tree(), "<div><input><b id=\"x\">o</b></div>");
        House.due("no REQUEST", h.it.count(5), 0);
        House.due("FOCUS stays", h.it.count(13), 1);
        House.due("TASKS stay", h.it.count(9), 2);
        House.due("HISTORY gets it", h.it.count(7), 2);
        House.due("the ADDRESS has the MARK", h.address(), "//home/#m");
        h.visit("//home/#m");
        House.due("the same MARK again", h.it.count(7), 3);
        House.due("no REQUEST for it", h.it.count(5), 0);
    }

    static void notTheSame() {
        House.says(7, "With the same SITE, PATH and QUERY, and a MARK: the page stays, HISTORY gets it. Else it is FETCHED;");
        String[] others = {"//far/a?q#m", "/b?q#m", "/a/?q#m", "?r#m", "?#m", "/a#m", "", "//home/a?q"};
        for (String other : others) {
            House h = new House();
            h.visit("//home/a?q");
            h.page("<p>x");
            h.visit(other);
            House.due("a REQUEST for " + other, h.it.count(5), 2);
            House.due("another page for " + other, h.it.count(0), 1);
        }
    }

    static void firstBytesOfTheBody() {
        House.says(7, "the page is what the last answer's BODY, its first 1500 bytes, gives;");
        House h = new House();
        h.server("//home/a\n" + "</i>".repeat(374) + "<hr>");
        h.visit("a");
        House.due("all 1500", h.it.count(0), 2);
        House.due("all FAULTS", h.it.count(1), 374);
    }

    static void addressOfTheLastOne() {
        House.says(7, "its ADDRESS the last one FOLLOWED (with the first one's MARK);");
        House h = new House();
        h.server("//home/a to=//far/b#n\n");
        h.visit("/a#m");
        House.due("with the first one's MARK", h.address(), "//far/b#m");
        h.visit("//home/a");
        House.due("that had none", h.address(), "//far/b");
    }

    static void focusAndTasksGo() {
        House.says(7, "FOCUS none, all TASKS go;");
        House h = busy();
        h.visit("");
        House.due("FOCUS", h.it.count(13), -1);
        House.due("TASKS", h.it.count(9), 0);
        House.due("none is done later", h.it.tick(9), 0);
    }

    static void historyOfTwenty() {
        House.says(7, HISTORY_GETS);
        House h = new House();
        for (int i = 1; i <= 19; i++) {
            h.visit("/" + i);
            House.due("HISTORY behind " + i, h.it.count(7), i + 1);
        }
        House.due("the first one is there", h.it.history(-19), 0);
        House.due("it is //home/", h.address(), "//home/");
        h.it.history(19);
        h.visit("/20");
        House.due("20 at most", h.it.count(7), 20);
        House.due("the page is the last of them", h.it.count(8), 19);
        House.due("none ahead", h.it.history(1), -1);
        House.due("back to the first", h.it.history(-19), 0);
        House.due("the first went", h.address(), "//home/1");
        h.it.history(19);
        h.visit("#m");
        House.due("also by a MARK", h.it.count(7), 20);
        h.it.history(-19);
        House.due("another first went", h.address(), "//home/2");
    }

    static void historyLosesWhatIsAhead() {
        House.says(7, HISTORY_GETS);
        House h = new House();
        for (int i = 1; i <= 5; i++) {
            h.visit("/" + i);
        }
        h.it.history(-3);
        h.visit("/x");
        House.due("what was ahead went", h.it.count(7), 4);
        House.due("none ahead", h.it.history(1), -1);
        h.it.history(-1);
        House.due("what was behind stays", h.address(), "//home/2");
        h.it.history(-2);
        h.visit("#m");
        House.due("also by a MARK", h.it.count(7), 2);
    }

    static void fullHistoryThatLosesSome() {
        House.says(7, HISTORY_GETS);
        House h = new House();
        for (int i = 1; i <= 19; i++) {
            h.visit("/" + i);
        }
        h.it.history(-1);
        h.visit("/x");
        House.due("one went ahead, one came", h.it.count(7), 20);
        House.due("so the first stays", h.it.history(-19), 0);
        House.due("it is //home/", h.address(), "//home/");
    }

    static void loadIsLast() {
        House.says(7, "then an EVENT load.");
        House h = new House();
        h.server("//home/a\n<b onload='go #m'></b>");
        h.visit("/a");
        House.due("HISTORY has the page already", h.it.count(7), 3);
        House.due("its MARK is behind it", h.address(), "//home/a#m");
    }

    static void whereAPageWent() {
        House.says(28, "Where a page went, nothing of the script, the EVENT or its DEFAULT is done any more.");
        House h = new House();
        h.server("//home/a\n<b onload='go /b;put a v'></b><i onload='put b v'></i>");
        h.server("//home/b\n<p id=x></p>");
        House.due("go, then go again; no put", h.script("go /a;put c v;put d v"), 2);
        House.due("no NAME in any STORE", h.it.count(15), 0);
        House.due("there", h.address(), "//home/b");
    }

    // ---- promise 8

    static void pageStaysAtItsAddress() {
        House.says(8, "The page is what the text, a PAGE TEXT, gives; its ADDRESS and HISTORY stay;");
        House h = new House();
        h.visit("/a#m");
        h.it.history(-1);
        House.due("an empty text", h.page(""), 1);
        House.due("ADDRESS", h.address(), "//home/");
        House.due("HISTORY", h.it.count(7), 2);
        House.due("where in it", h.it.count(8), 0);
        House.due("a text of blanks", h.page(" \n "), 1);
        House.due("120 NODES", h.page("<br>".repeat(119)), 120);
        House.due("no more", h.page("<br>".repeat(120)), 120);
    }

    static void pageTakesFocusAndTasks() {
        House.says(8, "FOCUS none, all TASKS go; an EVENT load: how many NODES there are behind that.");
        House h = busy();
        h.page("<input>");
        House.due("FOCUS", h.it.count(13), -1);
        House.due("TASKS", h.it.count(9), 0);
        House.due("NODES that load takes away", h.page("<p id=x onload='del x'>t<b>u</b></p>"), 1);
        House.due("NODES that load adds", h.page("<p onload='add self b;add self i'></p>"), 4);
        h.server("//home/a\n<b><i>x</i></b>");
        House.due("NODES of a page that load went to", h.page("<p onload='go /a'>t<b>u</b></p>"), 4);
    }

    static void pageIsWrongForBytesAlone() {
        House.says(8, "WRONG for bytes alone.");
        House h = new House();
        h.page("<p>x");
        House.due("no byte of texts", h.page("<b>\u0001"), -1003);
        House.due("the page stays", h.tree(), "<div><p>x</p></div>");
        House.due("faults are not WRONG", h.page("</b><"), 2);
    }

    // ---- promise 9

    static void historyByMany() {
        House.says(9, "HISTORY by so many (below 0 back):");
        House h = new House();
        h.visit("/1");
        h.visit("/2");
        h.visit("/3");
        House.due("back by two", h.it.history(-2), 1);
        House.due("there", h.address(), "//home/1");
        House.due("on by two", h.it.history(2), 3);
        House.due("there again", h.address(), "//home/3");
        House.due("back by three", h.it.history(-3), 0);
        House.due("on by one", h.it.history(1), 1);
    }

    static void historyEdges() {
        House.says(9, "NONE if there is none so far.");
        House h = new House();
        h.visit("/1");
        h.visit("/2");
        h.it.history(-1);
        House.due("one too far on", h.it.history(2), -1);
        House.due("one too far back", h.it.history(-2), -1);
        House.due("as far on as can be", h.it.history(Integer.MAX_VALUE), -1);
        House.due("as far back", h.it.history(Integer.MIN_VALUE), -1);
        House.due("the page stays", h.address(), "//home/1");
        House.due("nothing is fetched", h.it.count(5), 3);
        House.due("where it is stays", h.it.count(8), 1);
        House.due("the last one", h.it.history(1), 2);
        House.due("the first one", h.it.history(-2), 0);
    }

    static void historyOfNoneChangesNothing() {
        House.says(9, "NONE if there is none so far.");
        House h = busy();
        h.it.history(1);
        h.it.history(-1);
        House.due("FOCUS stays", h.it.count(13), 1);
        House.due("TASKS stay", h.it.count(9), 2);
    }

    static void historyFetches() {
        House.says(9, "the ADDRESS there is fetched and is the page, as by a VISIT, HISTORY being as it is, and an EVENT load comes:");
        House h = busy();
        h.server("//home/\n<i onload='put a v'>t</i>");
        House.due("by none", h.it.history(0), 0);
        House.due("fetched", h.it.count(5), 1);
        House.due("the page", h.name(2), "t");
        House.due("FOCUS none", h.it.count(13), -1);
        House.due("all TASKS go", h.it.count(9), 0);
        House.due("load came", h.it.count(15), 1);
        House.due("HISTORY as it is", h.it.count(7), 1);
    }

    static void historyFetchesMarksToo() {
        House.says(9, "the ADDRESS there is fetched and is the page, as by a VISIT, HISTORY being as it is, and an EVENT load comes:");
        House h = new House();
        h.visit("#m");
        h.page("<p>x");
        House.due("back from a MARK", h.it.history(-1), 0);
        House.due("fetched", h.it.count(5), 1);
        House.due("on to the MARK", h.it.history(1), 1);
        House.due("fetched too", h.it.count(5), 2);
        House.due("with it", h.address(), "//home/#m");
    }

    static void historyOfWhatIsFollowed() {
        House.says(9, "HISTORY being as it is, and an EVENT load comes:");
        House h = new House();
        h.visit("/a#m");
        h.visit("/b");
        h.server("//home/a to=//far/c\n");
        House.due("back", h.it.history(-1), 1);
        House.due("FOLLOWED now", h.address(), "//far/c#m");
        h.server("//home/a\n");
        h.it.history(0);
        House.due("HISTORY has what it had", h.address(), "//home/a#m");
    }

    static void historyBehindScripts() {
        House.says(9, "where in HISTORY the page is behind all that (scripts may have gone on), from 0 on;");
        House h = new House();
        h.visit("/a");
        h.visit("/b");
        h.visit("/c");
        h.server("//home/a\n<b onload='go /d'></b>");
        House.due("gone on from 1 to 2", h.it.history(-2), 2);
        House.due("there", h.address(), "//home/d");
        House.due("what was ahead went", h.it.count(7), 3);
        h.server("//home/d\n<b onload='go #m'></b>");
        House.due("a MARK is one more too", h.it.history(0), 3);
    }

    // ---- promise 10

    static void writeAhead() {
        House.says(10, "This page's ADDRESS (0), the last REQUEST's (1; nothing ahead of any),");
        House h = new House();
        h.it.name(0);
        House.due("nothing ahead of any REQUEST", h.it.write(1), 0);
        House.due("that is written", h.it.out(0), -1);
        h.it.name(0);
        House.due("no COOKIES ahead of any", h.it.write(2), 0);
        House.due("that is written too", h.it.out(0), -1);
        h.visit("#m");
        House.due("a MARK is no REQUEST", h.it.write(1), 0);
        h.visit("/abcdefghijkl/a?q");
        House.due("this page's", h.out(h.it.write(0)), "//home/abcdefghijkl/a?q");
        House.due("the REQUEST's", h.out(h.it.write(1)), "//home/abcdefghijkl/a?q");
    }

    static void writeOther() {
        House.says(10, "NONE for another what.");
        House h = new House();
        h.it.name(0);
        House.due("-1", h.it.write(-1), -1);
        House.due("3", h.it.write(3), -1);
        House.due("far", h.it.write(Integer.MAX_VALUE), -1);
        House.due("below", h.it.write(Integer.MIN_VALUE), -1);
        House.due("THE OUT stays", h.out(3), "div");
    }

    static void writeTheLongest() {
        House.says(10, "written to THE OUT: how many bytes;");
        House h = new House();
        String longest = "//abcdefgh" + "/abcdefghijkl".repeat(6) + "?" + "q".repeat(40);
        h.visit(longest + "#abcdefgh");
        House.due("this page's", h.out(h.it.write(0)), longest + "#abcdefgh");
        House.due("the REQUEST's", h.it.write(1), 129);
    }

    // ---- promise 11

    static void tickEdges() {
        House.says(11, "THE CLOCK goes on by n, 0 .. 1000;");
        House h = new House();
        House.due("0", h.it.tick(0), 0);
        House.due("THE CLOCK", h.it.count(6), 0);
        House.due("1", h.it.tick(1), 0);
        House.due("1000", h.it.tick(1000), 0);
        House.due("THE CLOCK then", h.it.count(6), 1001);
        House.says(11, "NONE for another n.");
        House.due("-1", h.it.tick(-1), -1);
        House.due("1001", h.it.tick(1001), -1);
        House.due("far", h.it.tick(Integer.MAX_VALUE), -1);
        House.due("far below", h.it.tick(Integer.MIN_VALUE), -1);
        House.due("THE CLOCK stays", h.it.count(6), 1001);
        h.script("wait 0 stop");
        House.due("TASKS are not done either", h.it.tick(1001), -1);
        House.due("they wait", h.it.count(9), 1);
    }

    static void keptAndTasks() {
        House.says(11, "what was KEPT and TASKS as told:");
        House h = new House();
        h.server("//home/a age=1000\nx");
        h.visit("/a");
        h.script("wait 1000 stop");
        House.due("none at 999", h.it.tick(999), 0);
        h.script("get self /a");
        House.due("KEPT at 999", h.it.count(5), 1);
        House.due("one at 1000", h.it.tick(1), 1);
        h.script("get self /a");
        House.due("stale at 1000", h.it.count(5), 2);
    }

    static void clockAtFirst() {
        House.says(11, "THE CLOCK is 0 at first, and goes on by tick().");
        House h = new House();
        h.visit("/a");
        h.page("<b id=x>o</b>");
        h.script("wait 3 stop;text x y");
        h.it.press(1, 1);
        h.it.history(0);
        House.due("by nothing else", h.it.count(6), 0);
        h.it.tick(7);
        h.visit("/b");
        House.due("a page does not set it back", h.it.count(6), 7);
    }

    static void tasksThatWereDone() {
        House.says(11, "how many TASKS were done (also one that made the page go).");
        House h = new House();
        h.script("wait 1 stop;wait 2 zip;wait 2 ;wait 3 stop;wait 4 stop");
        House.due("none", h.it.tick(0), 0);
        House.due("one", h.it.tick(1), 1);
        House.due("a WRONG one and one of nothing", h.it.tick(1), 2);
        House.due("two by one tick", h.it.tick(2), 2);
        House.due("none is left", h.it.tick(1000), 0);
        h.script("wait 1 go /a;wait 1 stop");
        House.due("one that made the page go", h.it.tick(1), 1);
    }
}
