/** Objects in states from which tests begin. */
final class Links {
    static final int[] NO_SITES = {-1, 2, 3, Integer.MIN_VALUE, Integer.MAX_VALUE};

    private Links() {
    }

    /** Queues a job at a site with a file of this length, byte i being (i + 1) * 7 modulo 256. */
    static void addJob(CountedLink x, int site, int length) {
        for (int i = 0; i < length; i++) {
            x.put(byteAt(i));
        }
        x.queue(site);
    }

    static int byteAt(int i) {
        return (i + 1) * 7 % 256;
    }

    /** Site 0 has one job of this length, is MASTER, and its S lies on the wire; site 1 is SLAVE. */
    static CountedLink offering(int length) {
        CountedLink x = new CountedLink();
        addJob(x, 0, length);
        x.call(0);
        x.deliver(0);
        x.deliver(1);
        return x;
    }

    /** Both sites have jobs as told, 0 has called, and all has been handed over. */
    static CountedLink settled(int jobsOf0, int jobsOf1) {
        CountedLink x = new CountedLink();
        for (int i = 0; i < jobsOf0; i++) {
            addJob(x, 0, 10 + i);
        }
        for (int i = 0; i < jobsOf1; i++) {
            addJob(x, 1, 40 + i);
        }
        x.call(0);
        x.settle(200);
        return x;
    }

    static void told(CountedLink x, String when, int site, int... wanted) {
        int[] got = new int[wanted.length];
        for (int i = 0; i < wanted.length; i++) {
            got[i] = x.told(site, i);
        }
        Check.due(when + ", told of site " + site, got, wanted);
    }

    /** The packets on a wire are these. */
    static void lies(CountedLink x, String when, int from, int[]... wanted) {
        Check.due(when + ", waiting(" + from + ")", x.waiting(from), wanted.length);
        for (int k = 0; k < wanted.length; k++) {
            Check.due(when + ", packet " + k + " from " + from, Packets.on(x, from, k), wanted[k]);
        }
    }

    /** As lies, by the heads alone, for tests that have not so many calls. */
    static void heads(CountedLink x, String when, int from, int[]... wanted) {
        Check.due(when + ", waiting(" + from + ")", x.waiting(from), wanted.length);
        for (int k = 0; k < wanted.length; k++) {
            Check.due(when + ", head " + k + " from " + from, Packets.headOn(x, from, k), Packets.head(wanted[k]));
        }
    }

    static void loseAll(CountedLink x, int from) {
        while (x.lose(from)) {
            continue;
        }
    }

    /** Packets are lost until the first one has this C. */
    static void loseUntil(CountedLink x, int from, int c) {
        while (x.look(from, 0, 4) != c && x.lose(from)) {
            continue;
        }
        Check.due("C of the first packet from " + from, x.look(from, 0, 4), c);
    }

    static void ticks(CountedLink x, String when, int count, int wantedEach) {
        for (int i = 1; i <= count; i++) {
            Check.due(when + ", tick " + i + " of " + count, x.tick(), wantedEach);
        }
    }

    /**
     * A site whose DATA are out sends them again, and what comes to the other one is this packet instead; the wire of
     * the other one then holds what it sent for this alone. Five times at most, from 0 ticks on.
     */
    static void hears(CountedLink x, int from, int number, int acknowledged, int... message) {
        loseAll(x, from);
        for (int i = 0; i < 4; i++) {
            x.tick();
        }
        loseAll(x, 1 - from);
        Packets.forge(x, from, Packets.data(number, acknowledged, message));
        Check.due("heard", x.deliver(from), 1);
        loseAll(x, from);
    }
}
