/** Promise 31 count: each number that it knows, and numbers that are none. */
public final class EdgeCountTest {
    private static final String COUNTS = "What 0: NODES of THE TREE, 1: FAULTS (all of them), 2: ANSWERS, 3: COOKIES, 4: KEPT answers (stale ones, too), 5: REQUESTS, 6: THE CLOCK, 7: in HISTORY, 8: where in it this page is, 9: TASKS that wait, 10: REFUSALS, 11: WRONG STEPS, 12: STEPS run, 13: the FOCUSED NODE (NONE), 14: THE PICTURE's height, 15: NAMES in all STORES, 16: SELECTORS of all styles;";

    public static void main(String[] args) throws ReflectiveOperationException {
        House.run(EdgeCountTest.class);
    }

    static void numbersThatAreNone() {
        House.says(31, "NONE for another what.");
        for (int what : new int[] {-1, -2, 17, 18, 1000, Integer.MAX_VALUE, Integer.MIN_VALUE}) {
            House.due("count(" + what + ")", new House().it.count(what), -1);
        }
        House.due("the first", new House().it.count(0), 1);
        House.due("the last", new House().it.count(16), 0);
    }

    static void mostOfEach() {
        House.says(31, COUNTS);
        House h = new House();
        h.page("<br>".repeat(130));
        House.due("NODES", h.it.count(0), 120);
        House.due("FAULTS", h.it.count(1), 11);
        h.page("</b>".repeat(500));
        House.due("FAULTS, all of them", h.it.count(1), 500);
        h.page("<style>" + "i,".repeat(60) + "i{}</style>");
        House.due("SELECTORS", h.it.count(16), 40);
        h.page("<style>p{height:96;margin:0}</style><p></p><p></p><p></p><p></p><p></p>");
        House.due("THE PICTURE's height", h.it.count(14), 400);
    }

    static void staleOnes() {
        House.says(31, "4: KEPT answers (stale ones, too),");
        House h = new House();
        h.server("//home/a age=1\n");
        h.visit("/a");
        h.it.tick(1);
        House.due("stale", h.it.count(4), 1);
        h.it.tick(1000);
        House.due("very stale", h.it.count(4), 1);
        h.server("//home/a\n");
        h.visit("/a");
        House.due("asked for again, and not KEPT", h.it.count(4), 1);
    }

    static void eachByItself() {
        House.says(31, COUNTS);
        House h = new House();
        h.server("//home/a age=9 cookie=c:v\n<style>b{size:2}</style><input id=x></b>");
        h.visit("a");
        h.it.press(1, 1);
        h.script("put n v;wait 5 stop;zip;get x //far/");
        h.it.tick(3);
        h.visit("#m");
        int[] due = {4, 1, 1, 1, 1, 2, 3, 3, 2, 1, 1, 1, 3, 3, 11, 1, 1};
        for (int what = 0; what < due.length; what++) {
            House.due("count(" + what + ")", h.it.count(what), due[what]);
        }
        h.it.history(-2);
        int[] back = {1, 0, 1, 1, 1, 3, 3, 3, 0, 0, 1, 1, 3, -1, 0, 1, 0};
        for (int what = 0; what < back.length; what++) {
            House.due("count(" + what + ") back at the first", h.it.count(what), back[what]);
        }
    }

    static void stepsAreCountedOn() {
        House.says(31, "11: WRONG STEPS, 12: STEPS run,");
        House h = new House();
        h.page("<p onload='stop;zip' onpress='stop;zip'>a</p>");
        House.due("by load", h.it.count(12) + " " + h.it.count(11), "1 1");
        h.it.press(3, 3);
        House.due("by press", h.it.count(12) + " " + h.it.count(11), "2 2");
        h.script("wait 1 stop;wait 1 zip");
        House.due("by script", h.it.count(12) + " " + h.it.count(11), "4 2");
        h.it.tick(1);
        House.due("by tick", h.it.count(12) + " " + h.it.count(11), "5 3");
        h.visit("/a");
        House.due("over pages", h.it.count(12) + " " + h.it.count(11), "5 3");
    }

    static void focusOfNone() {
        House.says(31, "13: the FOCUSED NODE (NONE),");
        House h = new House();
        h.page("<input id=x>");
        House.due("none", h.it.count(13), -1);
        h.it.press(1, 1);
        House.due("it", h.it.count(13), 1);
        h.script("del x");
        House.due("it went", h.it.count(13), -1);
    }
}
