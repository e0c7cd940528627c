/**
 * Puts packets of a test's own before sites that are OPEN. A packet that is not GOOD is answered by RJ, and RJ by all
 * DATA that are out: these are altered. So the site from which they come must have two DATA out, and some packet must
 * lie on the line. No tick goes by.
 */
final class Forger {
    final CountedLink x;
    /** By site, a number that is not out there: with it RJ has all sent again and acknowledges none. */
    private final int[] notOut = {0, 0};
    /** By site, the number behind the one that it accepted last. */
    private final int[] next = {1, 1};

    private Forger(CountedLink x) {
        this.x = x;
    }

    /**
     * Site 0, MASTER, has its DATA 1, 2 and 3 out, S for jobs 0, 1 and 2 (H when there is no job 2); it accepted DATA
     * 1 and 2, by which jobs 0 and 1 left its queue. Site 1, SLAVE, has its DATA 1 and 2 out, Y and C; it accepted
     * DATA 1 and executed job 0. Jobs 0 and 1 have empty files, jobs 2, 3, .. files of these lengths.
     */
    static Forger busy(int... lengths) {
        return busyOn(new CountedLink(), lengths);
    }

    /** The same on an object on which no job was queued yet, and whose sites are IDLE. */
    static Forger busyOn(CountedLink x, int... lengths) {
        Forger forger = new Forger(x);
        x.queue(0);
        x.queue(0);
        for (int length : lengths) {
            Links.addJob(x, 0, length);
        }
        x.call(0);
        x.deliver(0);
        x.deliver(1);
        x.deliver(0);
        x.lose(1);
        for (int number = 1; number <= 2; number++) {
            Packets.forge(x, 1, Packets.data(number, 0, 'N'));
            Check.due("N " + number, x.deliver(1), 1);
        }
        forger.next[0] = 3;
        forger.next[1] = 2;
        return forger;
    }

    /** The next DATA come to a site, and acknowledge nothing. Its wire holds what it sends for this alone. */
    void message(int to, int... message) {
        data(to, next[to], notOut[to], message);
        next[to] = (next[to] + 1) % 8;
    }

    /** The next DATA come to a site, and acknowledge all up to y, which is not out any more then. */
    void messageThatAcknowledges(int to, int y, int... message) {
        data(to, next[to], y, message);
        next[to] = (next[to] + 1) % 8;
        notOut[to] = y;
    }

    /** DATA with a number that is not the next one. */
    void data(int to, int number, int y, int... message) {
        sendAgain(1 - to);
        Packets.forge(x, 1 - to, Packets.data(number, y, message));
        Check.due("forged DATA", x.deliver(1 - to), 1);
    }

    /** A control comes to a site. Its wire holds what it sends for this alone. */
    void control(int to, int kind, int y) {
        int from = 1 - to;
        sendAgain(from);
        spoil(from);
        spoil(from);
        Links.loseAll(x, from);
        spoil(to);
        askFor(from);
        Packets.forge(x, from, Packets.control(kind, y));
        Check.due("forged control", x.deliver(from), 1);
    }

    /** All that a site has out lies on its wire, and nothing else on the line. */
    private void sendAgain(int site) {
        if (x.waiting(site) == 0) {
            spoil(1 - site);
        }
        Links.loseAll(x, 1 - site);
        spoil(site);
        Links.loseAll(x, site);
        askFor(site);
    }

    /** The RJ that lies first on the other site's wire has a site send all again that is out. */
    private void askFor(int site) {
        Packets.forge(x, 1 - site, Packets.control(Packets.RJ, notOut[site]));
        Check.due("forged RJ", x.deliver(1 - site), 1);
    }

    private void spoil(int from) {
        Check.due("alter", x.alter(from, 0, 1), true);
        Check.due("altered", x.deliver(from), 0);
    }
}
