/** A SpoolLink whose calls are counted: what it answers behind the 512th is free, so that no test may ask it. */
final class CountedLink {
    static final int CALLS_MOST = 512;

    private final SpoolLink link = new SpoolLink();
    private int calls = 0;

    private SpoolLink counted() {
        calls++;
        if (calls == CALLS_MOST + 1) {
            Check.due("calls of one object in a test", calls, CALLS_MOST);
        }
        return link;
    }

    int callsLeft() {
        return CALLS_MOST - calls;
    }

    int put(int b) {
        return counted().put(b);
    }

    int queue(int site) {
        return counted().queue(site);
    }

    boolean call(int site) {
        return counted().call(site);
    }

    int deliver(int from) {
        return counted().deliver(from);
    }

    boolean lose(int from) {
        return counted().lose(from);
    }

    boolean alter(int from, int at, int mask) {
        return counted().alter(from, at, mask);
    }

    int tick() {
        return counted().tick();
    }

    boolean crash(int site) {
        return counted().crash(site);
    }

    int settle(int n) {
        return counted().settle(n);
    }

    int waiting(int from) {
        return counted().waiting(from);
    }

    int look(int from, int k, int i) {
        return counted().look(from, k, i);
    }

    int told(int site, int what) {
        return counted().told(site, what);
    }

    int queued(int site, int k) {
        return counted().queued(site, k);
    }

    int executed(int site, int k) {
        return counted().executed(site, k);
    }

    int file(int site, int k, int i) {
        return counted().file(site, k, i);
    }

    int times(int site, int job) {
        return counted().times(site, job);
    }
}
