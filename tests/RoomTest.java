import com.sun.management.ThreadMXBean;
import java.lang.management.ManagementFactory;

/** Rule 12: what a run makes is counted. Each run here is 512 calls of one object, of the dearest sorts that there are. */
public final class RoomTest {
    /** The room of one run has 7.3 million fields and elements; no element is smaller than a byte. */
    private static final long ROOM = 7_300_000;
    private static final int CALLS = 512;
    private static final ThreadMXBean THREADS = (ThreadMXBean) ManagementFactory.getThreadMXBean();

    public static void main(String[] args) {
        run("servers", "//a/ to=//b/ cookie=a:b age=9\nx", 1);
        run("bodies", "//a/\n" + "b".repeat(1500), 1);
        run("pages", "<style>b{size:2}</style>" + "<b>t</b>".repeat(58), 3);
        run("longest pages", "\"".repeat(400) + "<b>x</b>".repeat(40), 3);
        run("scripts", "add self b;text self v;wait 0 stop;put a b;get self //a/;", 6);
        run("visits", "//abcdefgh/abcdefghijkl?q#m", 2);
        run("references", "../../a/b/c?q=1#m", 0);
        run("selectors", ".a.b.c.d .a.b.c.d .a.b.c.d", 5);
        House.finish();
    }

    private static void run(String name, String text, int sort) {
        int[] words = new int[(text.length() + 19) / 20 * 5];
        for (int i = 0; i < words.length * 4; i++) {
            words[i / 4] = words[i / 4] << 8 | (i < text.length() ? text.charAt(i) : 0);
        }
        spend(words, text.length(), sort);
        long before = THREADS.getThreadAllocatedBytes(Thread.currentThread().getId());
        spend(words, text.length(), sort);
        long made = THREADS.getThreadAllocatedBytes(Thread.currentThread().getId()) - before;
        System.out.println(name + ": " + made + " bytes in " + CALLS + " calls");
        House.due(name + " go into the room", made < ROOM ? 1 : 0, 1);
    }

    /** Texts of one sort as often as the calls allow, and what is asked of the page between them. */
    private static void spend(int[] words, int length, int sort) {
        BrowserHouse house = new BrowserHouse();
        int calls = 0;
        for (int round = 0; calls < CALLS; round++) {
            for (int i = 0; i + 4 < words.length && calls < CALLS; i += 5) {
                house.feed(words[i], words[i + 1], words[i + 2], words[i + 3], words[i + 4]);
                calls++;
            }
            house.end(length);
            take(house, sort);
            house.serialise(0);
            house.word(round, 3);
            house.point(round % 20, 3);
            calls += 5;
        }
    }

    private static void take(BrowserHouse house, int sort) {
        switch (sort) {
            case 0:
                house.resolve();
                break;
            case 1:
                house.server();
                break;
            case 2:
                house.visit();
                break;
            case 3:
                house.page();
                break;
            case 5:
                house.select();
                break;
            default:
                house.script();
                break;
        }
    }
}
