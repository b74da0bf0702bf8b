/** Promise 28 script, and what Part VIII says of STEPS, TASKS and STORES: at their edges. */
public final class EdgeScriptTest {
    private static final String TWO_HUNDRED = "At most 200 STEPS are run in one call (WRONG ones count here); behind the 200th all stops, DEFAULTS and TASKS, too (but what it did itself, a VISIT).";

    public static void main(String[] args) throws ReflectiveOperationException {
        House.run(EdgeScriptTest.class);
    }

    /** How many STEPS are run of a script on a page with a b of id x, and how many are WRONG. */
    private static void steps(String script, int run, int wrong) {
        House h = House.paged("<b id=x>o</b>");
        House.due("run of [" + script + "]", h.script(script), run);
        House.due("WRONG of [" + script + "]", h.it.count(11), wrong);
    }

    // ---- promise 28

    static void howManyWereRun() {
        House.says(28, "The text, a SCRIPT, is run, self being THE ROOT: how many STEPS were run (WRONG ones not).");
        steps("", 0, 0);
        steps("stop", 1, 0);
        steps("zip", 0, 1);
        steps("stop;zip;stop", 2, 1);
        House h = new House();
        h.script("text self v");
        House.due("self is THE ROOT", h.tree(), "<div>v</div>");
    }

    static void wrongForBytesAlone() {
        House.says(28, "WRONG for bytes alone.");
        House h = new House();
        House.due("no byte of texts", h.script("stop;\u0001"), -1005);
        House.due("none is run", h.it.count(12), 0);
        House.due("WRONG STEPS are no WRONG text", h.script("~"), 0);
    }

    static void blanksAhead() {
        House.says(28, "SCRIPT: STEPS with ; between, blanks and 10s ahead of each; what is in it is parted by one blank each:");
        steps(" \n stop;\n\n stop", 2, 0);
        steps("stop ;stop", 1, 1);
        steps("stop\n;stop", 1, 1);
        steps("text  x v", 0, 1);
        steps("text\nx v", 0, 1);
        steps("text x\nv", 0, 1);
        steps("put  a b", 0, 1);
        steps("put a  b", 0, 1);
        steps("add x  b", 0, 1);
        steps("del  x", 0, 1);
        steps("wait  1 stop", 0, 1);
    }

    static void wordsOfSteps() {
        House.says(28, "text I VALUE; class I VALUE; add I NAME; del I; val I VALUE; go VALUE; get I VALUE; put NAME NAME; read I NAME; wait NUMBER STEP; stop.");
        steps("text x v;class x k;add x b;val x v;get x /a;put a b;read x a;wait 1 stop;stop;del x", 10, 0);
        steps("go #m", 1, 0);
        House.says(28, "A STEP that can't be read so, or whose I is nothing,");
        String[] none = {
            "texts x v", "tex x v", "Text x v", "text", "class", "add", "del", "val", "get", "put", "read", "wait", "stops", "sto", "STOP", "go#m", "stop x",
            "del x y", "add x b c", "read x a b", "put a b c", "wait 1 ", "x", "~", "texty", "=",
        };
        for (String step : none) {
            steps(step, step.equals("wait 1 ") ? 1 : 0, step.equals("wait 1 ") ? 0 : 1);
        }
    }

    static void stepsOfNothing() {
        House.says(28, "is a WRONG STEP, and passed over (these are counted; one of nothing is no STEP).");
        steps(";", 0, 0);
        steps(";; \n;", 0, 0);
        steps("stop;", 1, 0);
        steps(";stop", 1, 0);
        steps("zip;;zip", 0, 2);
        steps("x", 0, 1);
        for (int length = 0; length <= 70; length++) {
            steps(" ".repeat(length), 0, 0);
            steps(" ".repeat(length) + "sto", 0, 1);
            steps("\n".repeat(length) + "stop", 1, 0);
        }
        House h = new House();
        h.script(" ;".repeat(210) + "stop");
        House.due("they do not count to 200 either", h.it.count(12), 1);
    }

    static void whoseIIsNothing() {
        House.says(28, "I is a NAME (the first NODE, in the tree's order, whose id it is) or self (the LISTENER's NODE).");
        steps("text y v", 0, 1);
        steps("text xx v", 0, 1);
        steps("text X v", 0, 1);
        steps("text 9 v", 0, 1);
        steps("text abcdefghi v", 0, 1);
        steps("class y k;add y b;del y;val y v;get y /a;read y n", 0, 6);
        House h = House.paged("<b id=abcdefgh>o</b>");
        House.due("a NAME of 8", h.script("text abcdefgh v"), 1);
        h = House.paged("<b id=abcdefghi>o</b>");
        House.due("an id of 9 is none", h.script("text abcdefgh v"), 0);
        h = House.paged("<p><b id=x></b></p><i id=x></i>");
        h.script("text x v");
        House.due("the first one", h.tree(), "<div><p><b id=\"x\">v</b></p><i id=\"x\"></i></div>");
        h.script("del x;text x w");
        House.due("then the next", h.tree(), "<div><p></p><i id=\"x\">w</i></div>");
        h = House.paged("<b id=self></b>");
        h.script("text self v");
        House.due("self is never an id", h.tree(), "<div>v</div>");
        h = House.paged("<b id=x onpress='text self v'>a</b>");
        h.it.press(1, 1);
        House.due("the LISTENER's NODE", h.name(2), "v");
    }

    static void values() {
        House.says(28, "VALUE: all up to the next ; or the end, one blank ahead of it.");
        House h = House.paged("<b id=x>o</b>");
        h.script("text x a b ;stop");
        House.due("up to the ;", h.name(2), "a b ");
        h.script("text x  a");
        House.due("one blank ahead of it", h.name(2), " a");
        h.script("text x \n<b>&lt;");
        House.due("as it is", h.name(2), "\n<b>&lt");
    }

    static void lastWords() {
        House.says(28, "A blank behind stop, or behind the last word of del, add and such that want no VALUE, is WRONG, so are text and class without the blank ahead of their VALUE (with it a VALUE may have no bytes);");
        steps("stop ", 0, 1);
        steps("del x ", 0, 1);
        steps("add x b ", 0, 1);
        steps("put a b ", 0, 1);
        steps("read x a ", 0, 1);
        steps("text x", 0, 1);
        steps("class x", 0, 1);
        steps("val x", 0, 1);
        steps("get x", 0, 1);
        steps("go", 0, 1);
        steps("text x ;class x ;val x ;get x ", 4, 0);
        House h = new House();
        House.due("go to nothing", h.script("go "), 1);
        House.due("is this page again", h.it.count(7), 2);
    }

    static void cutValues() {
        House.says(28, "VALUES of text are cut to 400 bytes, those of ATTRIBUTES to 60.");
        House h = House.paged("<b id=x>o</b>");
        h.script("text x " + "v".repeat(400));
        House.due("400", h.it.node(2, 5), 400);
        h.script("text x " + "v".repeat(401));
        House.due("401", h.it.node(2, 5), 400);
        h.script("text x " + "v".repeat(1900));
        House.due("1900", h.it.node(2, 5), 400);
        h.script("class x " + "v".repeat(60));
        House.due("60", h.attribute(1, "class"), 60);
        h.script("class x " + "v".repeat(61));
        House.due("61", h.attribute(1, "class"), 60);
        House.due("it is no FAULT", h.it.count(1), 0);
    }

    static void passedOverIsRun() {
        House.says(28, "What is passed over, not being WRONG, is run and counted.");
        House h = House.paged("<br id=x><i id=y a b c></i>");
        House.due("all of them", h.script("text x v;add x b;del self;val y v;class y k;go A;get y A"), 7);
        House.due("none is WRONG", h.it.count(11), 0);
        House.due("nothing is done", h.tree(), "<div><br id=\"x\"><i id=\"y\" a=\"\" b=\"\" c=\"\"></i></div>");
        House.due("counted", h.it.count(12), 7);
    }

    // ---- text, class, add, del, val

    static void text() {
        House.says(28, "text: all in I goes, one TEXT comes (of no bytes: none; of an EMPTY TAG, or 20 deep: passed over);");
        House h = House.paged("<p id=x>a<b>b</b><i>c</i></p>");
        h.script("text x v");
        House.due("one TEXT", h.tree(), "<div><p id=\"x\">v</p></div>");
        h.script("text x ");
        House.due("of no bytes", h.it.node(1, 2), 0);
        for (String tag : "br hr img input".split(" ")) {
            h = House.paged("<" + tag + " id=x>");
            h.script("text x v");
            House.due(tag, h.it.node(1, 2), 0);
        }
        h = House.paged("<b>".repeat(18) + "<i id=x>");
        h.script("text x v");
        House.due("19 deep", h.it.node(19, 2), 1);
        h = House.paged("<b>".repeat(19) + "<i id=x>");
        h.script("text x v");
        House.due("20 deep", h.it.node(20, 2), 0);
        h = House.paged("<p id=x>a</p>");
        h.script("text self v");
        House.due("all in THE ROOT", h.tree(), "<div>v</div>");
    }

    static void textWithoutRoom() {
        House.says(28, "A TEXT that would come into an ELEMENT in which nothing lies is passed over when there are 120 NODES.");
        House h = House.paged("<i id=x></i><b id=y>q</b><u id=z><s></s></u>" + "<br>".repeat(114));
        House.due("120", h.it.count(0), 120);
        h.script("text x v");
        House.due("nothing lies in it", h.it.node(1, 2), 0);
        h.script("text y v");
        House.due("a TEXT lies in it", h.name(3), "v");
        h.script("text z v");
        House.due("an ELEMENT lies in it", h.name(5), "v");
        h.script("text y ;text x v");
        House.due("one went, one comes", h.name(3), "v");
        House.due("into the other", h.it.node(3, 1), 1);
    }

    static void classes() {
        House.says(28, "class: its ATTRIBUTE class is that (a fifth ATTRIBUTE: passed over);");
        House h = House.paged("<b id=x a b></b><i id=y a b c></i><u id=z a b class=k></u>");
        h.script("class x k;class y k;class z m");
        House.due("a fourth", h.out(h.attribute(1, "class")), "k");
        House.due("four", h.it.node(1, 4), 4);
        House.due("a fifth", h.attribute(2, "class"), -1);
        House.due("four still", h.it.node(2, 4), 4);
        House.due("one that is there", h.out(h.attribute(3, "class")), "m");
        h.script("class self k");
        House.due("of THE ROOT", h.it.node(0, 4), 1);
        h.script("class self ");
        House.due("of no bytes", h.attribute(0, "class"), 0);
    }

    static void add() {
        House.says(28, "add: an ELEMENT of that NAME comes last in I (of an EMPTY TAG, or without room as in Part IV: passed over);");
        House h = House.paged("<p id=x>a</p>");
        h.script("add x b;add x abcdefgh");
        House.due("last", h.tree(), "<div><p id=\"x\">a<b></b><abcdefgh></abcdefgh></p></div>");
        steps("add x abcdefghi", 0, 1);
        steps("add x B", 0, 1);
        steps("add x 9", 0, 1);
        steps("add x ", 0, 1);
        steps("add x", 0, 1);
        for (String tag : "br hr img input".split(" ")) {
            h = House.paged("<" + tag + " id=x>");
            House.due("to " + tag, h.script("add x b"), 1);
            House.due("none came to " + tag, h.it.count(0), 2);
        }
        h = House.paged("<b>".repeat(18) + "<i id=x>");
        h.script("add x u");
        House.due("20 deep", h.it.node(20, 1), 19);
        h = House.paged("<b>".repeat(19) + "<i id=x>");
        h.script("add x u");
        House.due("21 deep", h.it.count(0), 21);
        h = House.paged("<br>".repeat(118));
        h.script("add self hr;add self u");
        House.due("the 120th", h.it.node(119, 0), 11);
        House.due("no more", h.it.count(0), 120);
        h = House.paged("<p id=x>a<div id=y>b</div>");
        h.script("add y p;add y p");
        House.due("it closes nothing", h.tree(), "<div><p id=\"x\">a</p><div id=\"y\">b<p></p><p></p></div></div>");
    }

    static void del() {
        House.says(28, "del: I goes with all in it (THE ROOT: passed over);");
        House h = House.paged("<p id=x>a<b>b</b></p>c");
        House.due("del", h.script("del x"), 1);
        House.due("all in it", h.it.count(0), 2);
        House.due("THE ROOT", h.script("del self"), 1);
        House.due("is there", h.tree(), "<div>c</div>");
        House.due("what went is nothing", h.script("del x"), 0);
    }

    static void val() {
        House.says(28, "val: an input's VALUE (cut to 24).");
        House h = House.paged("<input id=x><input id=y type=check checked>");
        h.script("val x " + "v".repeat(24));
        House.due("24", h.value(1), "v".repeat(24));
        h.script("val x " + "w".repeat(25));
        House.due("25", h.value(1), "w".repeat(24));
        h.script("val x ");
        House.due("of no bytes", h.value(1), "");
        h.script("val y v");
        House.due("of a check", h.value(2) + " " + h.it.checked(2), "v 1");
        House.says(28, "val of what is no input is passed over (run, and counted).");
        h = House.paged("<b id=x>o</b>");
        House.due("run", h.script("val x v"), 1);
        House.due("nothing is done", h.tree(), "<div><b id=\"x\">o</b></div>");
    }

    // ---- go, get

    static void go() {
        House.says(28, "go: a VISIT of the REFERENCE;");
        House h = new House();
        House.due("NO ADDRESS: nothing", h.script("go A;put a v"), 2);
        House.due("no REQUEST", h.it.count(5), 0);
        House.due("a MARK: the page stays", h.script("go #m;put b v"), 2);
        House.due("HISTORY", h.it.count(7), 2);
        House.due("the page went", h.script("go /a;put c v"), 1);
        House.due("no NAME more", h.it.count(15), 2);
    }

    static void get() {
        House.says(28, "get: the REFERENCE is FETCHED (NO ADDRESS: passed over); if the last ADDRESS FOLLOWED has this page's SITE, or that answer is open, as text with the BODY's first 200 bytes, else the REFUSAL is counted;");
        House h = House.paged("<b id=x>o</b>");
        h.server("//home/a\n" + "v".repeat(200));
        h.server("//home/b\n" + "v".repeat(200) + "w");
        h.server("//home/c\n");
        h.server("//far/a\n");
        h.server("//far/b open\nb");
        h.server("//far/c to=//home/d open\n");
        h.server("//home/d\nd");
        h.server("//home/e to=//far/a open\n");
        h.script("get x a");
        House.due("200", h.it.node(2, 5), 200);
        h.script("get x b");
        House.due("201", h.it.node(2, 5), 200);
        h.script("get x c");
        House.due("none", h.it.node(1, 2), 0);
        h.script("get x d");
        House.due("this SITE", h.name(2), "d");
        h.script("get x //far/a");
        House.due("another SITE", h.it.count(10), 1);
        House.due("it stays", h.name(2), "d");
        h.script("get x //far/b");
        House.due("open", h.name(2), "b");
        h.script("get x //far/c");
        House.due("the last one has this SITE", h.name(2), "d");
        h.script("get x e");
        House.due("the last one has another, and is not open", h.it.count(10), 2);
        h.script("get x //far/none");
        House.due("EMPTY of another SITE", h.it.count(10), 3);
        House.due("NO ADDRESS", h.script("get x A"), 1);
        House.due("is no REFUSAL", h.it.count(10), 3);
        House.due("REQUESTS", h.it.count(5), 11);
        House.due("the page stays", h.it.count(7), 1);
    }

    static void getWithoutRoom() {
        House.says(28, "or that answer is open, as text with the BODY's first 200 bytes,");
        House h = House.paged("<br id=x>");
        h.server("//home/a\nv");
        House.due("of an EMPTY TAG", h.script("get x a"), 1);
        House.due("FETCHED all the same", h.it.count(5), 1);
        House.due("nothing comes", h.it.count(0), 2);
        House.due("no REFUSAL", h.it.count(10), 0);
    }

    // ---- STORES

    static void stores() {
        House.says(28, "put, read: the SITE's STORE (NAMES to NAMES, 20 in all; full ones pass it over): it is put; as text with it (nothing, if there is none).");
        House h = House.paged("<b id=x>o</b>");
        h.script("read x a");
        House.due("none", h.it.node(1, 2), 0);
        h.script("put a abcdefgh;read x a");
        House.due("it", h.name(2), "abcdefgh");
        h.script("put a v;read x a");
        House.due("another in its place", h.name(2), "v");
        House.due("one NAME", h.it.count(15), 1);
        steps("put abcdefgh abcdefgh", 1, 0);
        steps("put abcdefghi a", 0, 1);
        steps("put a abcdefghi", 0, 1);
        steps("put a", 0, 1);
        steps("put a b c", 0, 1);
        steps("put a 9", 0, 1);
        steps("read x 9", 0, 1);
        steps("read x", 0, 1);
        steps("read x abcdefghi", 0, 1);
    }

    static void twentyInAll() {
        House.says(28, "THE STORE has 20 in all, of all SITES together.");
        House h = new House();
        StringBuilder nineteen = new StringBuilder();
        for (int i = 0; i < 19; i++) {
            nineteen.append("put n").append(i).append(" v;");
        }
        h.script(nineteen.toString());
        h.visit("//far/");
        h.script("put n0 w");
        House.due("the 20th", h.it.count(15), 20);
        House.due("a 21st is run", h.script("put n1 w"), 1);
        House.due("and passed over", h.it.count(15), 20);
        h.script("read self n1");
        House.due("it is not there", h.it.count(0), 1);
        h.script("put n0 z;read self n0");
        House.due("one that is there", h.name(1), "z");
        h.visit("//home/");
        h.script("read self n0");
        House.due("the other SITE's", h.name(1), "v");
        h.script("put n18 y;read self n18");
        House.due("the last one of it", h.name(1), "y");
    }

    // ---- TASKS

    static void waits() {
        House.says(28, "wait: a TASK, that STEP (its first 60 bytes) for this self, at THE CLOCK and NUMBER (20 at most; more are passed over);");
        steps("wait 0 stop", 1, 0);
        steps("wait 9999 stop", 1, 0);
        steps("wait 10000 stop", 0, 1);
        steps("wait x stop", 0, 1);
        steps("wait 1", 0, 1);
        steps("wait", 0, 1);
        steps("wait 1 zip", 1, 0);
        House h = new House();
        House.due("19", h.script("wait 5 stop;".repeat(19)), 19);
        House.due("they wait", h.it.count(9), 19);
        House.due("two more are run", h.script("wait 5 stop;wait 4 stop"), 2);
        House.due("20 wait", h.it.count(9), 20);
        House.due("the 21st is not among them", h.it.tick(4), 0);
        House.due("all 20", h.it.tick(1), 20);
        h.script("wait 1 stop");
        House.due("there is room again", h.it.count(9), 1);
    }

    static void theGreatestWait() {
        House.says(11, "at THE CLOCK and NUMBER");
        House h = new House();
        h.it.tick(3);
        h.script("wait 9999 stop");
        for (int i = 0; i < 9; i++) {
            h.it.tick(1000);
        }
        House.due("at 10001", h.it.tick(998), 0);
        House.due("at 10002", h.it.tick(1), 1);
    }

    static void sixtyBytes() {
        House.says(28, "SCRIPT: the STEP behind wait (perhaps of no bytes behind the NUMBER's blank: nothing is done then) is cut to 60 bytes first, read when its time has come, and WRONG, counted then.");
        House h = House.paged("<b id=x>o</b>");
        h.script("wait 0 text x " + "v".repeat(53));
        h.it.tick(0);
        House.due("60 bytes", h.it.node(2, 5), 53);
        h.script("wait 0 text x " + "v".repeat(54));
        h.it.tick(0);
        House.due("61 bytes", h.it.node(2, 5), 53);
        h.script("wait 0 " + "wait 0 ".repeat(7) + "text x vv");
        House.due("wait after wait", h.it.tick(0), 8);
        House.due("cut to what is left: text x vv", h.name(2), "vv");
        h.script("wait 0 " + "wait 0 ".repeat(8) + "text x w");
        h.it.tick(0);
        House.due("cut to 60 first, whatever it would be later", h.it.count(11), 1);
        int run = h.it.count(12);
        h.script("wait 1 ");
        House.due("of no bytes it waits", h.it.count(9), 1);
        House.due("it is done", h.it.tick(1), 1);
        House.due("nothing is run by it", h.it.count(12), run + 1);
        House.due("nothing is WRONG", h.it.count(11), 1);
        h.script("wait 1 zip");
        House.due("not WRONG yet", h.it.count(11), 1);
        h.it.tick(1);
        House.due("WRONG then", h.it.count(11), 2);
    }

    static void tasksInOrder() {
        House.says(11, "TASKS are done by tick(), those whose time has come, by time, then as they came (also such as come meanwhile).");
        House h = House.paged("<b id=x>o</b>");
        h.script("wait 2 text x a;wait 1 text x b;wait 2 text x c;wait 3 text x d");
        h.it.tick(1);
        House.due("at 1", h.name(2), "b");
        h.it.tick(1);
        House.due("at 2 the last that came", h.name(2), "c");
        House.due("one waits", h.it.count(9), 1);
        h.script("wait 0 text x e;wait 1 text x f");
        House.due("three by one tick", h.it.tick(1), 3);
        House.due("of one time the last that came", h.name(2), "f");
        h.script("wait 1 wait 0 text x g;wait 1 text x h");
        House.due("one that comes meanwhile", h.it.tick(1), 3);
        House.due("is the last", h.name(2), "g");
    }

    static void selfOfTasks() {
        House.says(11, "A TASK whose self went is done all the same, and counted.");
        House h = House.paged("<b id=x onpress='wait 1 text self v;wait 1 put a v'>a</b>");
        h.it.press(1, 1);
        h.script("del x;add self b");
        House.due("both", h.it.tick(1), 2);
        House.due("self is nothing: WRONG", h.it.count(11), 1);
        House.due("another one that has its number is not meant", h.tree(), "<div><b></b></div>");
        House.due("the second needs no self", h.it.count(15), 1);
    }

    static void clockWhileTasksAreDone() {
        House.says(11, "THE CLOCK is at tick()'s end while TASKS are done;");
        House h = new House();
        h.script("wait 1 wait 1 stop");
        House.due("at 5, so the second is for 6", h.it.tick(5), 1);
        House.due("not at 5", h.it.tick(0), 0);
        House.due("at 6", h.it.tick(1), 1);
        h = new House();
        h.server("//home/a age=3\nx");
        h.script("wait 1 get self /a");
        h.it.tick(5);
        int asked = h.it.count(5);
        h.it.tick(2);
        h.script("get self /a");
        House.due("KEPT from 5 on, till 8", h.it.count(5), asked);
    }

    static void stop() {
        House.says(28, "stop: the EVENT goes no further up, and has no DEFAULT (the script goes on).");
        House h = House.paged("<a href=/y onpress='put a v'><b onpress='stop;put b v'>x</b></a>");
        h.it.press(1, 1);
        House.due("no further up, no DEFAULT", h.it.count(15) + " " + h.it.count(7), "1 1");
        House.due("where there is no EVENT", h.script("stop;put c v"), 2);
        h = House.paged("<a href=/y><b onpress='wait 1 stop'>x</b></a>");
        h.it.press(1, 1);
        House.due("a TASK is too late", h.address(), "//home/y");
        h = House.paged("<a href=/y><b onpress='stop '>x</b></a>");
        h.it.press(1, 1);
        House.due("a WRONG one stops nothing", h.address(), "//home/y");
    }

    // ---- 200 STEPS

    static void twoHundred() {
        House.says(28, TWO_HUNDRED);
        House h = new House();
        House.due("199", h.script("stop;".repeat(199)), 199);
        House.due("200", h.script("stop;".repeat(200)), 200);
        House.due("201", h.script("stop;".repeat(201)), 200);
        House.due("WRONG ones count", h.script("zip;".repeat(199) + "stop;stop"), 1);
        House.due("200 WRONG ones", h.script("zip;".repeat(200) + "stop"), 0);
        House.due("a new call has 200 again", h.script("stop;".repeat(5)), 5);
    }

    static void theTwoHundredth() {
        House.says(28, TWO_HUNDRED);
        House h = new House();
        h.server("//home/a\n<b onload='put a v'>t</b>");
        h.script("stop;".repeat(199) + "go /a");
        House.due("a VISIT by the 200th", h.address(), "//home/a");
        House.due("its page", h.name(2), "t");
        House.due("HISTORY", h.it.count(7), 2);
        House.due("no load any more", h.it.count(15), 0);
        h.script("stop;".repeat(198) + "go /a");
        House.due("by the 199th one more is run", h.it.count(15), 1);
        h.script("stop;".repeat(200) + "go /b");
        House.due("the 201st", h.address(), "//home/a");
        h = House.paged("<b id=x>o</b>");
        h.server("//home/a\nv");
        h.script("stop;".repeat(199) + "get x a");
        House.due("a get by the 200th", h.name(2), "v");
    }

    static void noDefaultBehindIt() {
        House.says(26, TWO_HUNDRED);
        String fifteen = "a;".repeat(15);
        StringBuilder page = new StringBuilder("<a href=/y onpress='a;a;a;a;a'>");
        for (int i = 0; i < 13; i++) {
            page.append("<b onpress='").append(fifteen).append("'>");
        }
        House h = House.paged(page + "x");
        h.it.press(1, 1);
        House.due("200 WRONG ones", h.it.count(11), 200);
        House.due("no DEFAULT", h.address(), "//home/");
        h = House.paged(page.toString().replace("'a;a;a;a;a'", "'a;a;a;a'") + "x");
        h.it.press(1, 1);
        House.due("199", h.it.count(11), 199);
        House.due("the DEFAULT", h.address(), "//home/y");
    }

    static void tasksThatItKept() {
        House.says(11, "those that the 200th STEP kept from it wait for the next tick(), of 0 too.");
        House h = new House();
        h.server("//home/l\n<b onload='wait 0 go /l'></b>");
        h.visit("/l");
        House.due("a go, a wait, a go ..", h.it.tick(0), 100);
        House.due("the last one waits", h.it.count(9), 1);
        House.due("for the next tick", h.it.tick(0), 100);
        h = new House();
        h.server("//home/s\n<b onload='wait 0 stop;wait 0 go /l'></b>");
        h.server("//home/l\n<b onload='wait 0 go /l'></b>");
        h.visit("/s");
        House.due("a stop, a go, a wait ..", h.it.tick(0), 101);
        House.due("the 200th went there, and its load was not run", h.it.count(9), 0);
        House.due("so none is left", h.it.tick(0), 0);
    }
}
