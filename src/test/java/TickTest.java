/** Promise 8: what is sent again, and when a site gives up. */
public final class TickTest {
    public static void main(String[] args) {
        idleSitesDoNotCount();
        callingGivesUp();
        dataAreSentAgain();
        acknowledgedBeginsAnew();
        askedForAgainBeginsTheTicksAnew();
        askedForAgainIsNotOneOfTheFive();
        moreDataDoNotBeginAnew();
        sessionsBeginTheCountsAnew();
        quietSites();
        goodOnesEndTheQuiet();
        quietSlaveThatThenHasDataOut();
        bothSitesInOneTick();
        Check.end();
    }

    private static void idleSitesDoNotCount() {
        CountedLink x = new CountedLink();
        Links.ticks(x, "idle", 50, 0);
        x.call(0);
        Links.ticks(x, "called then", 3, 0);
        Check.due("called then", x.tick(), 1);
    }

    /** Five times sent again, at every fourth tick, and IDLE at the fourth tick behind the fifth time. */
    private static void givesUp(CountedLink x, int site, int sentEach, int state) {
        for (int round = 1; round <= 5; round++) {
            Links.ticks(x, "round " + round, 3, 0);
            Check.due("sent in round " + round, x.tick(), sentEach);
        }
        Links.ticks(x, "round 6", 3, 0);
        Check.due("state before the end", x.told(site, 2), state);
        Check.due("at the end", x.tick(), 0);
        Check.due("state at the end", x.told(site, 2), 0);
        Check.due("out at the end", x.told(site, 3), 0);
    }

    private static void callingGivesUp() {
        for (int site = 0; site < 2; site++) {
            CountedLink x = new CountedLink();
            x.call(site);
            x.crash(site);
            x.call(site);
            givesUp(x, site, 1, 1);
            int[] init = Packets.control(Packets.INIT, 1);
            Links.lies(x, "INIT six times", site, init, init, init, init, init, init);
            Check.due("it may call again", x.call(site), true);
        }
    }

    /** Site 0 has DATA 2, 3 and 4 out, one waits, and site 1 is IDLE; the line is empty. */
    private static CountedLink threeOut() {
        CountedLink x = Links.offering(100);
        x.deliver(0);
        x.deliver(1);
        x.deliver(1);
        x.crash(1);
        Links.loseAll(x, 0);
        Links.told(x, "three out", 0, 1, 0, 2, 3, 1, 1);
        return x;
    }

    private static void dataAreSentAgain() {
        CountedLink x = threeOut();
        givesUp(x, 0, 3, 2);
        Links.told(x, "given up", 0, 1, 0, 0, 0, 0, 1);
        Check.due("wire is full", x.waiting(0), 12);
    }

    /** The first packet on the wire from 0 comes to 1 and something comes back from there that is this control. */
    private static void answers(CountedLink x, int[] control) {
        x.deliver(0);
        Packets.forge(x, 1, control);
        x.deliver(1);
    }

    private static CountedLink offeringTwiceSent() {
        CountedLink x = Links.offering(100);
        Links.ticks(x, "offering", 3, 0);
        Check.due("offer again", x.tick(), 1);
        return x;
    }

    private static void acknowledgedBeginsAnew() {
        CountedLink x = Links.offering(100);
        x.deliver(0);
        x.deliver(1);
        x.deliver(1);
        x.lose(0);
        x.deliver(0);
        Links.ticks(x, "three out", 3, 0);
        Links.loseAll(x, 0);
        x.deliver(1);
        Links.told(x, "RR 2", 0, 1, 0, 2, 3, 0, 1);
        x.crash(1);
        givesUp(x, 0, 3, 2);

        x = offeringTwiceSent();
        x.deliver(0);
        x.deliver(1);
        x.deliver(1);
        x.crash(1);
        givesUp(x, 0, 3, 2);
    }

    private static void askedForAgainBeginsTheTicksAnew() {
        CountedLink x = offeringTwiceSent();
        Links.ticks(x, "before RJ", 3, 0);
        answers(x, Packets.control(Packets.RJ, 0));
        x.crash(1);
        Links.ticks(x, "behind RJ", 3, 0);
        Check.due("behind RJ", x.tick(), 1);

        x = offeringTwiceSent();
        Links.ticks(x, "before RR", 3, 0);
        answers(x, Packets.control(Packets.RR, 0));
        x.crash(1);
        Check.due("RR that acknowledges nothing", x.tick(), 1);
    }

    private static void askedForAgainIsNotOneOfTheFive() {
        CountedLink x = Links.offering(0);
        answers(x, Packets.control(Packets.RJ, 0));
        x.crash(1);
        givesUp(x, 0, 1, 2);
    }

    private static void moreDataDoNotBeginAnew() {
        CountedLink x = Links.offering(100);
        x.deliver(0);
        x.lose(1);
        Packets.forge(x, 1, Packets.data(1, 0, 'Y'));
        // Site 1's Y is out since as many ticks as site 0's S.
        Links.ticks(x, "before Y", 3, 0);
        x.deliver(1);
        Links.told(x, "S and D", 0, 1, 0, 2, 3, 2, 1);
        Check.due("S is as old as before", x.tick(), 4);
    }

    private static void sessionsBeginTheCountsAnew() {
        CountedLink x = new CountedLink();
        x.call(0);
        for (int i = 0; i < 23; i++) {
            x.tick();
        }
        x.deliver(0);
        x.deliver(1);
        Check.due("open", x.told(0, 2), 2);
        x.crash(1);
        Links.loseAll(x, 0);
        givesUp(x, 0, 1, 2);
    }

    private static void quietSites() {
        CountedLink x = new CountedLink();
        x.call(0);
        x.deliver(0);
        x.crash(0);
        Links.ticks(x, "quiet slave", 40, 0);
        Check.due("at the 40th", x.told(1, 2), 3);
        Check.due("41st tick", x.tick(), 0);
        Check.due("at the 41st", x.told(1, 2), 0);

        x = Links.offering(100);
        x.deliver(0);
        x.deliver(1);
        x.crash(1);
        Links.told(x, "quiet master", 0, 1, 0, 2, 0, 0, 1);
        Links.ticks(x, "quiet master", 40, 0);
        Check.due("master at the 40th", x.told(0, 2), 2);
        x.tick();
        Check.due("master at the 41st", x.told(0, 2), 0);
    }

    private static void goodOnesEndTheQuiet() {
        // GOOD: an ANSWER that is left out; not GOOD: the same, altered.
        for (int altered = 0; altered < 2; altered++) {
            CountedLink x = Links.offering(100);
            x.deliver(0);
            x.deliver(1);
            Packets.forge(x, 1, Packets.data(1, 0, 'X'));
            x.deliver(1);
            x.crash(1);
            x.call(1);
            x.tick();
            Packets.forge(x, 1, Packets.control(Packets.ANSWER, 5));
            if (altered == 1) {
                x.alter(1, 5, 1);
            }
            Links.ticks(x, "quiet", 2, 0);
            Check.due("deliver", x.deliver(1), 1 - altered);
            Check.due("still a master", x.told(0, 2), 2);
            x.crash(1);
            int quiet = altered == 1 ? 3 : 0;
            Links.ticks(x, "quiet again", 40 - quiet, 0);
            Check.due("before the end", x.told(0, 2), 2);
            x.tick();
            Check.due("at the end", x.told(0, 2), 0);
        }
    }

    /** The quiet ticks before, of which the INIT leaves none, do not hasten the end. */
    private static void quietSlaveThatThenHasDataOut() {
        CountedLink x = new CountedLink();
        Links.addJob(x, 0, 100);
        x.call(0);
        x.deliver(0);
        x.crash(0);
        Links.ticks(x, "quiet", 30, 0);
        x.call(0);
        x.deliver(0);
        x.deliver(1);
        x.deliver(0);
        Links.told(x, "Y is out", 1, 0, 0, 3, 1, 0, 0);
        x.crash(0);
        givesUp(x, 1, 1, 3);
    }

    private static void bothSitesInOneTick() {
        CountedLink x = Links.offering(5);
        x.deliver(0);
        Links.told(x, "S and Y are out", 0, 1, 0, 2, 1, 0, 1);
        Links.told(x, "S and Y are out", 1, 0, 0, 3, 1, 0, 0);
        Links.ticks(x, "S and Y are out", 3, 0);
        Check.due("both again", x.tick(), 2);
        Links.lies(x, "both again", 0, Packets.data(1, 0, Packets.offer(0, 5)));
        Check.due("Y twice", x.waiting(1), 3);
    }
}
