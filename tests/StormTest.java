/** Rule 7: no call throws or fails to end, for any arguments in any state; and the same calls give the same answers. */
public final class StormTest {
    private static final String[] WORDS = {
        "<div", "<p", "<b", "<i", "<a", "<ul", "<li", "<form", "<input", "<button", "<img", "<br", "<hr", "<style", "<zz", "</div>",
        "</p>", "</b>", "</a>", "</style>", ">", ">", ">", ">", ">", " id=x", " id=y", " class=k", " href=", " action=", " name=q",
        " type=check", " checked", " value=", " onpress='", " onkey='", " onload='", "'", "\"", "=", "text x ", "text self ",
        "class x k", "add x b", "add self style", "del x", "del self", "val y ", "go ", "get x ", "put a b", "read x a", "wait 0 ",
        "wait 3 ", "stop", ";", "/a", "//home/a", "//far/b", "?q=1", "#m", "..", "/", "a", " ", "\n", "&lt;", "&amp;", "<!--", "-->",
        "*", ".k", "#x", "{", "}", ",", ":", "!", "%", "float:left", "float:right", "display:flex", "display:none", "display:block",
        "width:50%", "width:9", "height:3", "margin:2", "margin:20", "padding:1", "border:3", "size:3", "align:right", "color:7",
        "background:5", "word", "aaaaaaaaaaaaaaaaaaaaaaaaaaaaaaaaaaaaaaaa", "open", "age=3", "cookie=a:b", "to=", "\u0001",
    };
    private static final int[] NUMBERS = {
        0, 1, 2, 3, 4, 5, 6, 7, 8, 9, 10, 11, 13, 17, 20, 32, 48, 60, 96, 97, 119, 120, 121, 400, 1000, 1001, 2000, -1, -2,
        -1000, 65536, Integer.MAX_VALUE, Integer.MIN_VALUE,
    };

    private static long seed;

    public static void main(String[] args) {
        long calls = 0;
        for (int run = 1; run <= 1500; run++) {
            seed = run;
            long first = storm(512);
            seed = run;
            long second = storm(512);
            House.due("run " + run + " again", second, first);
            calls += 1024;
        }
        System.out.println(calls + " calls came back");
        House.finish();
    }

    private static int next(int bound) {
        seed = seed * 6364136223846793005L + 1442695040888963407L;
        return (int) ((seed >>> 33) % bound);
    }

    private static int number() {
        return NUMBERS[next(NUMBERS.length)];
    }

    private static String text() {
        StringBuilder all = new StringBuilder();
        switch (next(4)) {
            case 0:
                all.append("<style>");
                break;
            case 1:
                all.append("//home/a\n");
                break;
            default:
                break;
        }
        int many = next(3) == 0 ? next(300) : next(40);
        for (int i = 0; i < many && all.length() < 1900; i++) {
            String word = WORDS[next(WORDS.length)];
            all.append(word.equals("\u0001") && next(40) > 0 ? "" : word);
        }
        return all.toString();
    }

    private static long storm(int calls) {
        House h = House.endless();
        long sum = 0;
        for (int i = 0; i < calls; i++) {
            sum = sum * 31 + call(h);
        }
        return sum;
    }

    private static int call(House h) {
        Counted it = h.it;
        switch (next(40)) {
            case 0: return it.feed(number(), number(), number(), number(), number());
            case 1: return it.end(number());
            case 2: return it.out(number());
            case 3: return h.resolve(text());
            case 4: return h.server(text());
            case 5: return h.visit(next(2) == 0 ? "/a" : text());
            case 6: case 7: case 8: return h.page(text());
            case 9: return it.history(next(3) == 0 ? number() : next(5) - 2);
            case 10: return it.write(number());
            case 11: return it.tick(number());
            case 12: return it.node(number(), number());
            case 13: return it.kid(number(), number());
            case 14: return it.name(number());
            case 15: return h.attribute(number(), next(2) == 0 ? "class" : text());
            case 16: return it.serialise(number());
            case 17: return it.fault(number(), number());
            case 18: return h.select(next(2) == 0 ? "div *" : text());
            case 19: return it.found(number());
            case 20: return it.style(number(), next(12));
            case 21: return it.screen(next(2) == 0 ? number() : 20 + next(77));
            case 22: return it.box(number(), next(5));
            case 23: return it.word(number(), next(8));
            case 24: return it.point(next(96), next(60));
            case 25: return it.point(number(), number());
            case 26: return it.top(number(), number());
            case 27: case 28: case 29: return it.press(next(48), next(40));
            case 30: return it.press(number(), number());
            case 31: case 32: return it.key(number());
            case 33: case 34: return h.script(text());
            case 35: return it.value(number());
            case 36: return it.checked(number());
            case 37: return it.count(number());
            case 38: return it.page();
            default: return it.server();
        }
    }
}
