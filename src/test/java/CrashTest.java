/** Promises 9 and 15 to 17: crashes and lost or altered packets at every point; every job is executed once. */
public final class CrashTest {
    private static final int JOBS_OF_0 = 3;
    private static final int JOBS_OF_1 = 2;
    private static final int PACKETS = 80;

    public static void main(String[] args) {
        noSuchSite();
        sessionIsForgotten();
        lineStays();
        for (int at = 0; at < PACKETS; at++) {
            crashAt(at, true, false);
            crashAt(at, false, true);
            crashAt(at, true, true);
            for (int from = 0; from < 2; from++) {
                loseAt(at, from);
                alterAt(at, from);
            }
        }
        Check.end();
    }

    private static void noSuchSite() {
        CountedLink x = Links.offering(4);
        for (int site : new int[] {-1, 2, Integer.MIN_VALUE, Integer.MAX_VALUE}) {
            Check.due("crash(" + site + ")", x.crash(site), false);
        }
        Links.told(x, "not crashed", 0, 1, 0, 2, 1, 0, 1);
        Links.told(x, "not crashed", 1, 0, 0, 3, 0, 0, 0);
        Check.due("crash of an IDLE one", new CountedLink().crash(1), true);
    }

    private static void sessionIsForgotten() {
        CountedLink x = Links.settled(1, 1);
        Links.addJob(x, 0, 100);
        x.call(0);
        x.settle(4);
        x.deliver(1);
        Links.told(x, "before", 0, 1, 1, 2, 3, 1, 2);
        Check.due("crash", x.crash(0), true);
        Links.told(x, "behind", 0, 1, 1, 0, 0, 0, 2);
        Check.due("job stays", x.queued(0, 0), 1);
        Check.due("executed stays", x.file(0, 0, 39), Links.byteAt(39));
        x.put(5);
        x.crash(0);
        Check.due("the next file stays", x.put(6), 2);
    }

    private static void lineStays() {
        CountedLink x = Links.offering(4);
        x.crash(0);
        x.crash(1);
        Links.lies(x, "crashed", 0, Packets.data(1, 0, Packets.offer(0, 4)));
    }

    private static CountedLink jobs() {
        CountedLink x = new CountedLink();
        for (int i = 0; i < JOBS_OF_0; i++) {
            Links.addJob(x, 0, 35 * i);
        }
        for (int i = 0; i < JOBS_OF_1; i++) {
            Links.addJob(x, 1, 1 + 40 * i);
        }
        x.call(0);
        return x;
    }

    private static void crashAt(int at, boolean site0, boolean site1) {
        CountedLink x = jobs();
        if (at > 0) {
            x.settle(at);
        }
        if (site0) {
            x.crash(0);
        }
        if (site1) {
            x.crash(1);
        }
        x.settle(200);
        for (int i = 0; i < 70; i++) {
            x.tick();
            x.settle(200);
        }
        Check.due("both IDLE in the end", x.told(0, 2) + x.told(1, 2), 0);
        x.call(at % 2);
        x.settle(200);
        dueOnce(x, "crash at " + at);
    }

    private static void loseAt(int at, int from) {
        CountedLink x = jobs();
        if (at > 0) {
            x.settle(at);
        }
        x.lose(from);
        finish(x, "lost at " + at);
    }

    private static void alterAt(int at, int from) {
        CountedLink x = jobs();
        if (at > 0) {
            x.settle(at);
        }
        x.alter(from, at % 6, 1 + at);
        finish(x, "altered at " + at);
    }

    /** Without a crash, ticks alone bring it to its end. */
    private static void finish(CountedLink x, String when) {
        for (int i = 0; i < 50; i++) {
            x.settle(200);
            x.tick();
        }
        dueOnce(x, when);
    }

    private static void dueOnce(CountedLink x, String when) {
        Check.due(when + ", left at 0", x.told(0, 0), 0);
        Check.due(when + ", left at 1", x.told(1, 0), 0);
        Check.due(when + ", executed at 0", x.told(0, 1), JOBS_OF_1);
        Check.due(when + ", executed at 1", x.told(1, 1), JOBS_OF_0);
        for (int k = 0; k < JOBS_OF_0; k++) {
            dueFile(x, when, 1, k, 35 * k);
        }
        for (int k = 0; k < JOBS_OF_1; k++) {
            dueFile(x, when, 0, k, 1 + 40 * k);
        }
    }

    private static void dueFile(CountedLink x, String when, int site, int k, int length) {
        Check.due(when + ", number", x.executed(site, k), k);
        Check.due(when + ", times", x.times(1 - site, k), 1);
        for (int i = 0; i <= length; i++) {
            Check.due(when + ", file", x.file(site, k, i), i < length ? Links.byteAt(i) : -1);
        }
    }
}
