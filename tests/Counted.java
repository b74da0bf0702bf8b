/** A BrowserHouse whose calls are counted: behind the 512th the document promises nothing, so no test may ask then. */
final class Counted {
    private final BrowserHouse house = new BrowserHouse();
    int calls = 0;

    /** A test that waits for an answer that never comes ends too. */
    private void noteCall() {
        calls++;
        if (calls > 20000) {
            throw new IllegalStateException("a test does not end");
        }
    }

    int feed(int a, int b, int c, int d, int e) {
        noteCall();
        return house.feed(a, b, c, d, e);
    }

    int end(int n) {
        noteCall();
        return house.end(n);
    }

    int out(int i) {
        noteCall();
        return house.out(i);
    }

    int resolve() {
        noteCall();
        return house.resolve();
    }

    int server() {
        noteCall();
        return house.server();
    }

    int visit() {
        noteCall();
        return house.visit();
    }

    int page() {
        noteCall();
        return house.page();
    }

    int history(int by) {
        noteCall();
        return house.history(by);
    }

    int write(int what) {
        noteCall();
        return house.write(what);
    }

    int tick(int n) {
        noteCall();
        return house.tick(n);
    }

    int node(int n, int what) {
        noteCall();
        return house.node(n, what);
    }

    int kid(int n, int i) {
        noteCall();
        return house.kid(n, i);
    }

    int name(int n) {
        noteCall();
        return house.name(n);
    }

    int attribute(int n) {
        noteCall();
        return house.attribute(n);
    }

    int serialise(int n) {
        noteCall();
        return house.serialise(n);
    }

    int fault(int i, int what) {
        noteCall();
        return house.fault(i, what);
    }

    int select() {
        noteCall();
        return house.select();
    }

    int found(int i) {
        noteCall();
        return house.found(i);
    }

    int style(int n, int property) {
        noteCall();
        return house.style(n, property);
    }

    int screen(int width) {
        noteCall();
        return house.screen(width);
    }

    int box(int n, int what) {
        noteCall();
        return house.box(n, what);
    }

    int word(int i, int what) {
        noteCall();
        return house.word(i, what);
    }

    int point(int x, int y) {
        noteCall();
        return house.point(x, y);
    }

    int top(int x, int y) {
        noteCall();
        return house.top(x, y);
    }

    int press(int x, int y) {
        noteCall();
        return house.press(x, y);
    }

    int key(int c) {
        noteCall();
        return house.key(c);
    }

    int script() {
        noteCall();
        return house.script();
    }

    int value(int n) {
        noteCall();
        return house.value(n);
    }

    int checked(int n) {
        noteCall();
        return house.checked(n);
    }

    int count(int what) {
        noteCall();
        return house.count(what);
    }
}
