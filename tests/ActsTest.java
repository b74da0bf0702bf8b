/** Promises 26 press, 27 key, 29 value, 30 checked: EVENTS, their way and their DEFAULTS. */
public final class ActsTest {
    public static void main(String[] args) {
        press();
        way();
        links();
        inputs();
        keys();
        forms();
        queries();
        load();
        House.finish();
    }

    private static void press() {
        House h = new House();
        House.due("nothing is there", h.it.press(0, 0), -1);
        h.page("<div onpress='put a v'>aa</div>");
        House.due("a TEXT", h.it.press(0, 0), 2);
        House.due("a BLOCK", h.it.press(30, 0), 1);
        House.due("out of it", h.it.press(48, 0), -1);
        House.due("below", h.it.press(0, 7), -1);
        House.due("above", h.it.press(0, -1), -1);
        House.due("nothing happens then", h.it.count(12), 2);
        h.page("<div id=x onpress='del self'>aa</div>");
        House.due("its NODE though it went", h.it.press(0, 0), 2);
        House.due("it went", h.tree(), "<div></div>");
    }

    private static void way() {
        House h = new House();
        h.page("<div onpress='put a one'><p onpress='put b two'><b onpress='put c three'>x</b></p></div><i id=x>q</i>");
        h.it.press(3, 3);
        House.due("from it up", h.it.count(12), 3);
        h.page("<div onpress='put a v'><p onpress='stop;put b v'><b onpress='put c v'>x</b></p></div>");
        h.it.press(3, 3);
        House.due("till one stops, whose script goes on", h.it.count(12), 3 + 3);
        h.page("<div onpress='put a v'><p id=x onpress='put b v'><b onpress='del x'>x</b></p></div>");
        h.it.press(3, 3);
        House.due("what went meanwhile is left out", h.it.count(12), 6 + 2);
        h.page("<div onpress='put a v'><p id=x onpress='put b v'><b onpress='del x;add self p'>x</b></p></div>");
        h.it.press(3, 3);
        House.due("self went too: a WRONG STEP", h.it.count(11), 1);
        h.page("<a href=/y><b id=x onpress='del x'>x</b></a>");
        h.it.press(1, 1);
        House.due("the DEFAULT of what is there still", h.address(), "//home/y");
        h.page("<a id=x href=/z><b onpress='del x'>x</b></a>");
        h.it.press(1, 1);
        House.due("no DEFAULT of what went", h.address(), "//home/y");
        h.page("<div onkey='put a v' onload='put b v'>x</div>");
        int run = h.it.count(12);
        h.it.press(1, 1);
        House.due("others are of no matter", h.it.count(12), run);
        h.page("<b id=x onpress='go /q;text x no'>a</b>");
        h.server("//home/q\n<b id=x>new</b>");
        h.it.press(1, 1);
        House.due("a page that went ends the script", h.tree(), "<div><b id=\"x\">new</b></div>");
        h.page("<a href=/r><b id=x onpress='go /q'>a</b></a>");
        h.it.press(1, 1);
        House.due("and the DEFAULT", h.address(), "//home/q");
        h.page("<a href=/r><b id=x onpress='go #m;text x still'>a</b></a>");
        h.it.press(1, 1);
        House.due("a MARK does not", h.address(), "//home/r");
    }

    private static void links() {
        House h = new House();
        h.server("//home/y\nyy");
        h.page("<a href=y>x</a>");
        h.it.press(1, 1);
        House.due("VISIT", h.address(), "//home/y");
        House.due("HISTORY", h.it.count(7), 2);
        h.page("<a>x</a>");
        h.it.press(1, 1);
        House.due("an a without href", h.address(), "//home/y");
        h.page("<a href='NO'>x</a>");
        h.it.press(1, 1);
        House.due("NO ADDRESS", h.address(), "//home/y");
        h.page("<a href=/z onpress='stop'>x</a>");
        h.it.press(1, 1);
        House.due("stopped", h.address(), "//home/y");
        h.page("<a href=/z><button>b</button></a>");
        h.it.press(1, 1);
        House.due("a button in no form has none, so the a above it", h.address(), "//home/z");
        h.page("<a href='#m'>x</a>");
        h.it.press(1, 1);
        House.due("a MARK", h.address(), "//home/z#m");
        House.due("the page stays", h.tree(), "<div><a href=\"#m\">x</a></div>");
        h.page("<a href=''>x</a>");
        h.it.press(1, 1);
        House.due("nothing is this page without MARK", h.address(), "//home/z");
    }

    private static void inputs() {
        House h = new House();
        h.page("<input value='a value of over twenty-four'><input type=check checked value=v><input checked><b>x</b>"
                + "<input type=check><p id=p onpress=stop>yy</p>");
        House.due("VALUE of 24", h.value(1), "a value of over twenty-f");
        House.due("VALUE of a check", h.value(2), "v");
        House.due("no VALUE", h.value(3), "");
        House.due("no input", h.it.value(4), -1);
        House.due("no NODE", h.it.value(99), -1);
        House.due("below", h.it.value(-1), -1);
        House.due("no check", h.it.checked(1), 0);
        House.due("CHECKED", h.it.checked(2), 1);
        House.due("checked, but no check", h.it.checked(3), 0);
        House.due("a check that is not", h.it.checked(6), 0);
        House.due("no input", h.it.checked(4), -1);
        House.due("no NODE", h.it.checked(-1), -1);
        h.it.press(2, 2);
        House.due("FOCUS", h.it.count(13), 1);
        h.it.press(30, 2);
        House.due("the other way round", h.it.checked(2), 0);
        House.due("a check takes FOCUS away", h.it.count(13), -1);
        h.it.press(30, 2);
        House.due("and round again", h.it.checked(2), 1);
        h.it.press(2, 13);
        House.due("FOCUS of the third", h.it.count(13), 3);
        h.it.press(3, h.it.box(7, 1));
        House.due("a press that is stopped leaves FOCUS", h.it.count(13), 3);
        h.it.press(24, 13);
        House.due("the b takes it away", h.it.count(13), -1);
        h.it.press(2, 2);
        h.script("text p z");
        House.due("a script leaves FOCUS", h.it.count(13), 1);
        h.it.key('q');
        h.it.tick(0);
        House.due("nor does it type", h.value(1), "a value of over twenty-f");
        h.page("<div id=x></div>");
        h.script("add x input");
        h.it.press(2, 2);
        House.due("an input that came is no check", h.it.count(13), 2);
        h.script("put a v");
        h.it.tick(1);
        h.it.history(5);
        House.due("other calls are no keys", h.value(2), "");
        h.page("<div id=x><input></div>");
        h.it.press(2, 2);
        h.script("del x;add self input");
        House.due("an input that went has none; another is not meant", h.it.count(13), -1);
        House.due("so no key", h.it.key('a'), -1);
    }

    private static void keys() {
        House h = new House();
        House.due("without FOCUS", h.it.key('a'), -1);
        h.page("<div onkey='put a v'><input id=x value=abc></div>");
        h.it.press(2, 2);
        House.due("its NODE", h.it.key('d'), 2);
        House.due("gets the byte", h.value(2), "abcd");
        House.due("the LISTENER above", h.it.count(12), 1);
        h.it.key(8);
        h.it.key(8);
        House.due("loses its last one", h.value(2), "ab");
        for (int c : new int[] {0, 7, 9, 11, 31, 127, -1, 256 + 'a'}) {
            House.due("key " + c, h.it.key(c), -1);
        }
        House.due("nothing happens then", h.it.count(12), 3);
        House.due("10 without a form", h.it.key(10), 2);
        House.due("is nothing", h.value(2), "ab");
        h.it.key(32);
        h.it.key(126);
        House.due("bytes", h.value(2), "ab ~");
        for (int i = 0; i < 30; i++) {
            h.it.key('z');
        }
        House.due("24 at most", h.value(2), "ab ~" + "z".repeat(20));
        h.script("val x ");
        h.it.key(8);
        House.due("nothing to lose", h.value(2), "");
        h.page("<input onkey='val self q;stop'>");
        h.it.press(2, 2);
        h.it.key('a');
        House.due("stopped", h.value(1), "q");
        h.page("<input onkey='val self q'>");
        h.it.press(2, 2);
        h.it.key('a');
        House.due("the script is ahead", h.value(1), "qa");
        h.page("<p><input onkey='del self'></p>");
        h.it.press(4, 4);
        House.due("one that goes", h.it.key('a'), 2);
        House.due("went", h.it.count(13), -1);
    }

    private static void forms() {
        House h = new House();
        h.page("<form action='/s'><input name=q><input name=c type=check><button>ok</button></form>");
        h.it.press(2, 2);
        for (char c : "hi A.b-c_d+&".toCharArray()) {
            h.it.key(c);
        }
        h.it.key(10);
        House.due("key 10 sends", h.address(), "//home/s?q=hi+.b-c_d");
        h.page("<form action='t?x=1#m'><div><button>ok</button></div><input name=q value=v><input name=r value=w></form>");
        h.it.press(2, 2);
        House.due("a button sends: a QUERY in place of its own", h.address(), "//home/t?q=v&r=w#m");
        h.page("<form><input name=a type=check checked><input name=b type=check><input name='9' value=v>"
                + "<input value=w><input name=d><br><button>k</button></form>");
        h.it.press(2, h.it.box(8, 1) + 2);
        House.due("checks, no NAMES, empty ones; else this page's ADDRESS", h.address(), "//home/t?a=on&d=#m");
        h.page("<input name=y value=no><form action='/w'><button>k</button></form><input name=z value=no>");
        h.it.press(2, h.it.box(3, 1) + 2);
        House.due("only inputs in it", h.address(), "//home/w?");
        h.visit("//home/t?a=on&d=#m");
        h.page("<form action='NO'><button>k</button></form>");
        h.it.press(2, 2);
        House.due("NO ADDRESS", h.address(), "//home/t?a=on&d=#m");
        h.page("<form action='/u'><button onpress=stop>k</button></form>");
        h.it.press(2, 2);
        House.due("stopped", h.address(), "//home/t?a=on&d=#m");
        h.page("<form action=/u><form action=/v><button>k</button></form></form>");
        h.it.press(2, 2);
        House.due("the innermost form; without inputs a QUERY of no bytes", h.address(), "//home/v?");
    }

    private static void queries() {
        House h = new House();
        h.page("<form action=/s><input name=abcdefgh value=abcdefghijklmnopqrstuvwx><input name=q value='1 2 3 4 5 6 7'>"
                + "<button>k</button></form>");
        h.it.press(2, h.it.box(4, 1) + 1);
        House.due("cut at 40", h.address(), "//home/s?abcdefgh=abcdefghijklmnopqrstuvwx&q=1+2+");
        h.page("<form action='?z#m'><input name=q value=v><button>k</button></form>");
        h.it.press(2, 2);
        h.it.key(10);
        House.due("another QUERY is FETCHED", h.address(), "//home/s?q=v#m");
        h.page("<form><input name=q value=v id=x></form>");
        h.it.press(2, 2);
        int requests = h.it.count(5);
        h.it.key(10);
        House.due("the same with a MARK stays", h.it.count(5), requests);
        House.due("the FOCUS too", h.it.count(13), 2);
    }

    private static void load() {
        House h = new House();
        h.page("<div id=x onload='add x b;stop'><p onload='put a v'>t</p></div><i onload='zip'></i>");
        House.due("each one alone; a stop is for that one", h.it.count(12), 3);
        House.due("WRONG ones", h.it.count(11), 1);
        h.page("<b id=x onload='del y'></b><i id=y onload='put a v'></i>");
        House.due("one that went is left out", h.it.count(12), 4);
        h.page("<b id=x onload='add self i'><a href=/y onload='put a v'>x</a></b>");
        House.due("no DEFAULT", h.address(), "//home/");
        h.server("//home/p\n<b onload='go /q'></b><i onload='put a v'></i>");
        h.server("//home/q\n<b onload='wait 3 stop'></b>");
        int run = h.it.count(12);
        h.visit("/p");
        House.due("a page that goes", h.address(), "//home/q");
        House.due("ends load", h.it.count(12), run + 2);
        House.due("a TASK of the new page", h.it.count(9), 1);
        House.due("HISTORY has both", h.it.count(7), 3);
    }
}
