/** Promise 31: count. */
public final class CountTest {
    public static void main(String[] args) {
        House h = new House();
        House.due("another what", h.it.count(17), -1);
        House.due("below", h.it.count(-1), -1);
        House.due("far", h.it.count(Integer.MAX_VALUE), -1);
        h.server("//home/a age=5 cookie=s:one\n<style>p,b{size:2}</style><p id=x>a</i></p><form><input id=y></form>");
        h.server("//far/a\nb");
        h.visit("a");
        int[] due = {7, 1, 2, 1, 1, 1, 0, 2, 1, 0, 0, 0, 0, -1, 29, 0, 2};
        all(h, "a visit", due);
        h.it.tick(3);
        h.script("wait 9 stop;put n v;zip;get x //far/a");
        h.it.press(2, 20);
        due = new int[] {7, 1, 2, 1, 1, 2, 3, 2, 1, 1, 1, 1, 3, 6, 29, 1, 2};
        all(h, "a script and a press", due);
        h.it.tick(9);
        h.it.history(-1);
        due = new int[] {1, 0, 2, 1, 1, 3, 12, 2, 0, 0, 1, 1, 4, -1, 0, 1, 0};
        all(h, "back, with a stale KEPT one", due);
        House.finish();
    }

    private static void all(House h, String when, int[] due) {
        for (int what = 0; what < due.length; what++) {
            House.due(when + ": count(" + what + ")", h.it.count(what), due[what]);
        }
    }
}
