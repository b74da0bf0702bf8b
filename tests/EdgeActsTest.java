/** Promises 26 press, 27 key, 29 value, 30 checked, and what Part VIII says of EVENTS and forms: at their edges. */
public final class EdgeActsTest {
    private static final String DEFAULT = "Then its DEFAULT, if none stopped, by the first one on that way, that is there still, that is: an a with href: a VISIT of it; a check: CHECKED the other way round; another input: it has the FOCUS; a button in a form: that is SENT.";
    private static final String SENT = "of the VALUE small letters, digits, . - _ as they are, a blank as +, others gone; cut at 40 bytes.";

    public static void main(String[] args) throws ReflectiveOperationException {
        House.run(EdgeActsTest.class);
    }

    /** A page whose first ELEMENT is an input that has the FOCUS. */
    private static House focused(String page) {
        House h = House.paged(page);
        h.it.press(1, 1);
        return h;
    }

    // ---- promise 26

    static void pressOnNothing() {
        House.says(26, "An EVENT press comes to what is ON TOP of a point: its NODE; NONE, and nothing happens, without.");
        House.due("an empty page", new House().it.press(0, 0), -1);
        House h = focused("<input onpress='put a v'>");
        House.due("FOCUS", h.it.count(13), 1);
        int run = h.it.count(12);
        int[][] beside = {{-1, 0}, {0, -1}, {48, 0}, {0, 11}, {Integer.MAX_VALUE, 0}, {0, Integer.MIN_VALUE}};
        for (int[] point : beside) {
            House.due("press " + point[0] + ", " + point[1], h.it.press(point[0], point[1]), -1);
        }
        House.due("no LISTENER was run", h.it.count(12), run);
        House.due("FOCUS stays", h.it.count(13), 1);
        House.due("the first point", h.it.press(0, 0), 1);
        House.due("the last one of the input", h.it.press(23, 10), 1);
        House.due("THE ROOT beside it", h.it.press(24, 10), 0);
    }

    static void pressOnWhatGoes() {
        House.says(26, "An EVENT press comes to what is ON TOP of a point: its NODE;");
        House h = House.paged("<p id=x onpress='del x'>a</p>");
        House.due("its NODE, though it went", h.it.press(3, 3), 2);
        House.due("it went", h.it.count(0), 1);
        h = House.paged("<p onpress='go /y'>a</p>");
        House.due("its NODE, though the page went", h.it.press(3, 3), 2);
    }

    // ---- promise 27

    static void keyThatIsNone() {
        House.says(27, "NONE, and nothing happens, without, or if c is not 8, 10, 32 .. 126.");
        House.due("without FOCUS", new House().it.key('a'), -1);
        House.due("without FOCUS, though there is an input", House.paged("<input>").it.key('a'), -1);
        House h = focused("<input value=ab onkey='put a v'>");
        for (int c : new int[] {0, 7, 9, 11, 13, 31, 127, 128, 255, -1, 256 + 'a', Integer.MAX_VALUE, Integer.MIN_VALUE}) {
            House.due("key " + c, h.it.key(c), -1);
        }
        House.due("VALUE stays", h.value(1), "ab");
        House.due("no LISTENER was run", h.it.count(12), 0);
        for (int c : new int[] {8, 10, 32, 126}) {
            House.due("key " + c, h.it.key(c), 1);
        }
        House.due("those that are some", h.value(1), "a ~");
        House.due("their LISTENERS", h.it.count(12), 4);
    }

    static void keyComesToTheInput() {
        House.says(27, "An EVENT key comes to the input that has the FOCUS, with byte c: its NODE;");
        House h = House.paged("<div onkey='put a v'><input><input onkey='put b v'></div>");
        h.it.press(25, 1);
        House.due("its NODE", h.it.key('a'), 3);
        House.due("its VALUE", h.value(2) + "|" + h.value(3), "|a");
        House.due("its LISTENER, and the one above", h.it.count(15), 2);
        h.it.press(1, 1);
        House.due("the other's NODE", h.it.key('b'), 2);
        House.due("the other's VALUE", h.value(2) + "|" + h.value(3), "b|a");
    }

    static void valueOf24() {
        House.says(27, "key: the FOCUSED input's VALUE gets the byte (24: not), loses its last one (8), or (10) its form is SENT.");
        House h = focused("<input value=" + "v".repeat(23) + ">");
        h.it.key('w');
        House.due("the 24th", h.value(1), "v".repeat(23) + "w");
        House.due("a 25th", h.it.key('x'), 1);
        House.due("does not come", h.value(1), "v".repeat(23) + "w");
        h.it.key(8);
        h.it.key('y');
        House.due("one less, one more", h.value(1), "v".repeat(23) + "y");
        h = focused("<input>");
        h.it.key(8);
        House.due("none to lose", h.value(1), "");
        h.it.key('a');
        h.it.key(8);
        h.it.key(8);
        House.due("the only one", h.value(1), "");
        h.it.key('b');
        House.due("and another", h.value(1), "b");
        House.due("10 without a form", h.it.key(10), 1);
        House.due("is nothing", h.value(1), "b");
        House.due("no VISIT", h.it.count(7), 1);
    }

    static void focusThatWent() {
        House.says(27, "FOCUS, a TASK's self and an EVENT's way are the NODES that were (another one that has their number is not meant);");
        House h = focused("<input id=x>");
        h.script("del x;add self input");
        House.due("another one has its number", h.it.node(1, 0), 13);
        House.due("without FOCUS", h.it.count(13), -1);
        House.due("no key", h.it.key('a'), -1);
        h = focused("<input id=x onkey='del x;add y input'><p id=y>");
        House.due("one that goes meanwhile", h.it.key('a'), 1);
        House.due("another one has its number again", h.it.node(1, 0), 13);
        House.due("it gets no byte", h.value(1), "");
        h = House.paged("<p id=x onpress='put b v'><b onpress='del x;add self p'>a</b></p>");
        h.it.press(3, 3);
        House.due("a way that went: del is run, add is WRONG, no more", h.it.count(12) + " " + h.it.count(11), "1 1");
    }

    // ---- promises 29 and 30

    static void values() {
        House.says(29, "An input has a VALUE (at first its ATTRIBUTE value, else nothing; at most 24 bytes)");
        House h = House.paged("<input value=" + "v".repeat(24) + "><input value=" + "w".repeat(25) + "><input><input value><input value='a&lt;\n'>");
        House.due("24", h.value(1), "v".repeat(24));
        House.due("25", h.value(2), "w".repeat(24));
        House.due("no ATTRIBUTE", h.value(3), "");
        House.due("an empty one", h.value(4), "");
        House.due("bytes of it", h.value(5), "a<\n");
        h.script("add self input");
        House.due("one that came", h.value(6), "");
    }

    static void valueIsWritten() {
        House.says(29, "An input's VALUE, written to THE OUT: how many bytes;");
        House h = House.paged("<input value=ab><input>");
        House.due("two", h.it.value(1), 2);
        House.due("written", h.out(2), "ab");
        House.due("none", h.it.value(2), 0);
        House.due("that is written too", h.it.out(0), -1);
        h.it.press(1, 1);
        h.it.key('c');
        House.due("three", h.value(1), "abc");
        House.due("the ATTRIBUTE stays", h.out(h.attribute(1, "value")), "ab");
    }

    static void valueOfNone() {
        House.says(29, "NONE if it is no input.");
        House h = House.paged("<input id=x><b value=v>t</b>");
        for (int n : new int[] {0, 2, 3, 4, 119, 120, -1, Integer.MAX_VALUE, Integer.MIN_VALUE}) {
            House.due("value(" + n + ")", h.it.value(n), -1);
        }
        h.script("del x");
        House.due("one that went", h.it.value(1), -1);
    }

    static void checkedOnes() {
        House.says(30, "and is CHECKED or not (ATTRIBUTE checked), if its ATTRIBUTE type is check.");
        House h = House.paged("<input type=check checked><input type=check><input checked><input type=checks checked><input type=Check checked>"
                + "<input checked=no type=check><input type='check ' checked><input CHECKED TYPE=check>");
        int[] due = {1, 0, 0, 0, 0, 1, 0, 1};
        for (int i = 0; i < due.length; i++) {
            House.due("checked(" + (i + 1) + ")", h.it.checked(i + 1), due[i]);
        }
    }

    static void checkedOfNone() {
        House.says(30, "Whether an input is CHECKED: 1 or 0; NONE if it is no input.");
        House h = House.paged("<input id=x type=check checked><b type=check checked>t</b>");
        for (int n : new int[] {0, 2, 3, 4, 119, 120, -1, Integer.MAX_VALUE, Integer.MIN_VALUE}) {
            House.due("checked(" + n + ")", h.it.checked(n), -1);
        }
        h.script("del x");
        House.due("one that went", h.it.checked(1), -1);
    }

    // ---- LISTENERS

    static void listeners() {
        House.says(26, "An ATTRIBUTE on and a SCRIPT make a LISTENER: of NAMES onpress, onkey, onload.");
        House h = House.paged("<p onclick='put a v' on='put b v' onpresss='put c v' ONPRESS='put d v'>a</p>");
        h.it.press(3, 3);
        House.due("onpress alone", h.it.count(15), 1);
        h = House.paged("<p onpress>a</p>");
        House.due("an empty one", h.it.press(3, 3), 2);
        House.due("runs nothing", h.it.count(12), 0);
        h = House.paged("<p onpress='" + "put a v;".repeat(8) + "'>a</p>");
        h.it.press(3, 3);
        House.due("its first 60 bytes: the eighth STEP is cut to put", h.it.count(12) + " " + h.it.count(11), "7 1");
    }

    static void theWay() {
        House.says(26, "AN EVENT comes to a NODE: from it up to THE ROOT (the way as it is then; what went meanwhile is left out) each LISTENER of its sort is run, till one stops.");
        String deep = "";
        for (int i = 0; i < 19; i++) {
            deep += "<b onpress='put a v'>";
        }
        House h = House.paged(deep + "a");
        House.due("20 deep", h.it.press(1, 1), 20);
        House.due("each LISTENER", h.it.count(12), 19);
        h = House.paged("<div onpress='put a v'><p onpress='put b v;stop;put c v'><b onpress='put d v'>a</b></p></div>");
        h.it.press(3, 3);
        House.due("till one stops, whose script goes on", h.it.count(12), 4);
        House.due("not the one above it", h.it.count(15), 3);
        h = House.paged("<div onpress='put a v'><p id=x onpress='put b v'><b onpress='del x'>a</b></p></div>");
        h.it.press(3, 3);
        House.due("what went is left out", h.it.count(12), 2);
        h = House.paged("<p id=x onpress='put a v'><b onpress='text x t'>a</b></p>");
        h.it.press(3, 3);
        House.due("what lies above goes on", h.it.count(12), 2);
    }

    static void load() {
        House.says(8, "(load: each NODE that has such a LISTENER then, in the tree's order, gets it alone.)");
        House h = House.paged("<p onload='put a v'><b onload='put b v'></b></p><i onload='put c v'></i>");
        House.due("each one once", h.it.count(12), 3);
        h = House.paged("<p id=x><b onload='text x a'></b></p><i id=y onload='text y b'></i>");
        House.due("one that goes by its own script", h.it.count(12), 2);
        h = House.paged("<b onload='del y'></b><i id=y onload='put a v'></i>");
        House.due("one that went is left out", h.it.count(12), 1);
        h = House.paged("<a href=/z onload='put a v'><input type=check onload='put b v'></a>");
        House.due("no DEFAULT", h.address() + " " + h.it.checked(2), "//home/ 0");
        House.says(8, "stop in a LISTENER of load is for that one alone.");
        h = House.paged("<p onload='stop;put a v'></p><i onload='put b v'></i>");
        House.due("all are run", h.it.count(12), 3);
    }

    // ---- DEFAULTS

    static void defaults() {
        House.says(26, DEFAULT);
        House h = House.paged("<a href=/y>a</a>");
        h.it.press(1, 1);
        House.due("an a with href", h.address(), "//home/y");
        h = House.paged("<a href=/y><a2>a</a2></a>");
        h.it.press(1, 1);
        House.due("what lies in it", h.address(), "//home/y");
        h = House.paged("<a>a</a>");
        h.it.press(1, 1);
        House.due("an a without", h.it.count(7), 1);
        h = House.paged("<a href>a</a>");
        h.it.press(1, 1);
        House.due("an empty href is this page", h.it.count(7), 2);
        h = House.paged("<a href='A'>a</a>");
        h.it.press(1, 1);
        House.due("NO ADDRESS", h.it.count(7), 1);
        h = House.paged("<a href=/y><input type=check></a>");
        h.it.press(1, 1);
        House.due("the first one on that way", h.address() + " " + h.it.checked(2), "//home/ 1");
        h.it.press(1, 1);
        House.due("the other way round again", h.it.checked(2), 0);
        h = House.paged("<a href=/y><input></a>");
        h.it.press(1, 1);
        House.due("another input", h.address() + " " + h.it.count(13), "//home/ 2");
        h = House.paged("<form action=/s><button>a</button></form>");
        h.it.press(1, 1);
        House.due("a button in a form", h.address(), "//home/s?");
        h = House.paged("<a href=/y><button>a</button></a>");
        h.it.press(1, 1);
        House.due("a button in none, so the a", h.address(), "//home/y");
        h = House.paged("<a href='A'><b>a</b></a><p>");
        h.it.press(1, 1);
        House.due("a NO ADDRESS is the DEFAULT all the same", h.it.count(7), 1);
        h = House.paged("<style>a{display:block}a a{width:9;height:9}</style><a href=/y><div id=x></div></a>");
        h.script("add x a");
        House.due("an a without href in one with it", h.it.press(1, 1), 5);
        House.due("goes on to that", h.address(), "//home/y");
    }

    static void defaultsOfWhatIsThere() {
        House.says(26, "by the first one on that way, that is there still,");
        House h = House.paged("<a href=/y><b id=x onpress='del x'>a</b></a>");
        h.it.press(1, 1);
        House.due("the a is there", h.address(), "//home/y");
        h = House.paged("<a id=x href=/y><b onpress='del x'>a</b></a>");
        h.it.press(1, 1);
        House.due("it went", h.address(), "//home/");
        h = House.paged("<form id=x action=/s><button onpress='del x'>a</button></form>");
        h.it.press(1, 1);
        House.due("a form that went with its button", h.address(), "//home/");
    }

    static void stopped() {
        House.says(26, "A press that is stopped leaves FOCUS as it is; one whose way has no such thing takes it away.");
        House h = focused("<input><b onpress=stop>a</b> <i>b</i>");
        h.it.press(25, 8);
        House.due("stopped", h.it.count(13), 1);
        h.it.press(32, 8);
        House.due("no such thing", h.it.count(13), -1);
        h = focused("<input><a href=/y onpress=stop>a</a>");
        h.it.press(25, 8);
        House.due("no DEFAULT", h.address(), "//home/");
        h = focused("<input onkey=stop value=v>");
        h.it.key('a');
        House.due("no byte", h.value(1), "v");
    }

    static void noneHasTheFocus() {
        House.says(26, "(If it was no such input, none has the FOCUS then.)");
        House h = focused("<input><input type=check>");
        h.it.press(25, 1);
        House.due("a check", h.it.count(13), -1);
        h = focused("<input><a href='#m'>a</a>");
        h.it.press(25, 8);
        House.due("an a whose page stays", h.it.count(13), -1);
        h = focused("<input><a href='A'>a</a>");
        h.it.press(25, 8);
        House.due("an a of NO ADDRESS", h.it.count(13), -1);
        h = focused("<input>");
        h.it.press(40, 1);
        House.due("THE ROOT", h.it.count(13), -1);
        h = focused("<input><input>");
        h.it.press(25, 1);
        House.due("another input", h.it.count(13), 2);
    }

    // ---- SENT

    private static String sent(String form) {
        House h = House.paged(form + "<br><button>k</button></form>");
        h.select("button");
        int n = h.it.found(0);
        h.it.press(h.it.box(n, 0) + 1, h.it.box(n, 1) + 1);
        return h.address();
    }

    static void actions() {
        House.says(26, "SENT is a form: a VISIT of its action (else this page's ADDRESS) with a QUERY in place of its own:");
        House.due("an action", sent("<form action=/s>"), "//home/s?");
        House.due("none", sent("<form>"), "//home/?");
        House.due("an empty one", sent("<form action=''>"), "//home/?");
        House.due("with a QUERY of its own", sent("<form action='/s?x=1'>"), "//home/s?");
        House.due("with a MARK", sent("<form action='/s?x=1#m'>"), "//home/s?#m");
        House.due("NO ADDRESS", sent("<form action='A'>"), "//home/");
        House.due("the innermost form", sent("<form action=/o><form action=/i>"), "//home/i?");
        House h = House.paged("<form><button>k</button></form>");
        h.visit("/a?b#m");
        h.page("<form><input name=q value=v><br><button>k</button></form>");
        h.it.press(1, h.it.box(4, 1) + 1);
        House.due("this page's ADDRESS", h.address(), "//home/a?q=v#m");
    }

    static void inputsThatAreSent() {
        House.says(26, "for each input in it, in order, whose ATTRIBUTE name is a NAME: that, =, VALUE (a check only if CHECKED, with on), & between;");
        House.due("none", sent("<form action=/s>"), "//home/s?");
        House.due("one", sent("<form action=/s><input name=q value=v>"), "//home/s?q=v");
        House.due("two", sent("<form action=/s><input name=q value=v><p><input name=r></p>"), "//home/s?q=v&r=");
        House.due("a NAME of 8", sent("<form action=/s><input name=abcdefgh value=v>"), "//home/s?abcdefgh=v");
        House.due("no NAME", sent("<form action=/s><input name=abcdefghi><input name=9><input name=Q><input name><input>"), "//home/s?");
        House.due("checks", sent("<form action=/s><input name=a type=check value=v><input name=b type=check checked value=w>"), "//home/s?b=on");
        House.due("none that does not lie in it", sent("<input name=q value=v><form action=/s>"), "//home/s?");
        House.due("the same NAME twice", sent("<form action=/s><input name=q value=v><input name=q value=w>"), "//home/s?q=v&q=w");
    }

    static void valuesThatAreSent() {
        House.says(26, SENT);
        House.due("bytes", sent("<form action=/s><input name=q value='aZ9 .-_=&amp;+/&quot;\n~z'>"), "//home/s?q=a9+.-_z");
        House.due("others alone", sent("<form action=/s><input name=q value='AB'>"), "//home/s?q=");
        String first = "<form action=/s><input name=abcdefgh value=" + "v".repeat(24) + ">";
        House.due("33 and 7", sent(first + "<input name=q value=abcd>"), "//home/s?abcdefgh=" + "v".repeat(24) + "&q=abcd");
        House.due("33 and 8", sent(first + "<input name=q value=abcde>"), "//home/s?abcdefgh=" + "v".repeat(24) + "&q=abcd");
        House.due("cut in a NAME", sent(first + "<input name=stuvwxyz value=abcde>"), "//home/s?abcdefgh=" + "v".repeat(24) + "&stuvwx");
        House.due("cut ahead of a third", sent(first + "<input name=q value=abcd><input name=r>"), "//home/s?abcdefgh=" + "v".repeat(24) + "&q=abcd");
        House.due("39, then &", sent(first + "<input name=q value=abc><input name=r>"), "//home/s?abcdefgh=" + "v".repeat(24) + "&q=abc&");
    }

    static void queryOfNoBytes() {
        House.says(26, "a FORM without inputs that is SENT has one of no bytes.");
        House h = new House();
        h.server("//home/s\nplain");
        h.server("//home/s?\nasked");
        h.page("<form action=/s><button>k</button></form>");
        h.it.press(1, 1);
        House.due("that ADDRESS", h.name(1), "asked");
    }

    static void sentByKey() {
        House.says(27, "or (10) its form is SENT.");
        House h = focused("<form action=/s><input name=q></form>");
        h.it.key('a');
        h.it.key(10);
        House.due("SENT", h.address(), "//home/s?q=a");
        h = focused("<form><input name=q value=v></form>");
        h.visit("?q=v#m");
        h.page("<form><input name=q value=v></form>");
        h.it.press(1, 1);
        h.it.key(10);
        House.due("the same with a MARK: the page stays", h.it.count(0) + " " + h.it.count(13), "3 2");
    }
}
