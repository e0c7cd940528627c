/** Promise 8: the boundary cases of the counts of ticks. */
public final class BoundaryTickTest {
    private static final int IDLE = 0;
    private static final int CALLING = 1;
    private static final int MASTER = 2;
    private static final int SLAVE = 3;

    public static void main(String[] args) {
        fourthTick();
        howManyWereSentAgain();
        withoutRoom();
        fifthTime();
        acknowledgedInBetween();
        notAcknowledgedInBetween();
        from0WhenItComesToBeSo();
        from0WhenAcknowledged();
        from0WhenItSendsAgain();
        notFrom0Otherwise();
        idleCountsNothing();
        fortyFirstTick();
        fortyFirstFrom0WhenOpen();
        fortyFirstFrom0WhenGoodComes();
        standsStillWhileDataAreOut();
        Check.end();
    }

    /** Sent again at each fourth tick, so many times, and at no other. */
    private static void again(CountedLink x, String when, int times, int packets) {
        for (int i = 1; i <= times; i++) {
            Links.ticks(x, when + ", before time " + i, 3, 0);
            Check.due(when + ", time " + i, x.tick(), packets);
        }
    }

    /** A site in its state for three ticks more, and IDLE at the fourth, at which nothing is sent. */
    private static void end(CountedLink x, String when, int site, int state) {
        Links.ticks(x, when + ", the end", 3, 0);
        Check.due(when + ", state before the end", x.told(site, 2), state);
        int lies = x.waiting(site);
        Check.due(when + ", the last tick", x.tick(), 0);
        Links.told(x, when + ", the end", site, x.told(site, 0), x.told(site, 1), IDLE, 0, 0);
        Check.due(when + ", nothing is sent at the end", x.waiting(site), lies);
    }

    private static void fourthTick() {
        Check.sentence("at the fourth one it sends INIT, or all that are out, again");
        for (int site = 0; site < 2; site++) {
            CountedLink x = new CountedLink();
            x.call(site);
            for (int i = 1; i <= 9; i++) {
                Check.due("tick " + i, x.tick(), i % 4 == 0 ? 1 : 0);
                Check.due("waiting behind tick " + i, x.waiting(site), 1 + i / 4);
            }
            Check.due("the last INIT", Packets.on(x, site, 2), Packets.control(Packets.INIT, 0));
        }
        CountedLink x = Links.offering(1);
        x.crash(1);
        for (int i = 1; i <= 9; i++) {
            Check.due("tick " + i, x.tick(), i % 4 == 0 ? 1 : 0);
            Check.due("waiting behind tick " + i, x.waiting(0), 1 + i / 4);
        }
        Check.due("the last S", Packets.on(x, 0, 2), Packets.data(1, 0, Packets.offer(0, 1)));
    }

    private static void howManyWereSentAgain() {
        Check.sentence("how many packets were sent again (also those for which there is no room).");
        for (int[] each : new int[][] {{30, 1}, {31, 2}, {60, 2}, {61, 3}, {90, 3}, {91, 3}}) {
            CountedLink x = Links.offering(each[0]);
            x.deliver(0);
            x.deliver(1);
            x.deliver(1);
            x.crash(1);
            Links.loseAll(x, 0);
            again(x, "file of " + each[0], 1, each[1]);
            Check.due("waiting", x.waiting(0), each[1]);
        }
        // Both sites in one tick: three of site 0 and two of site 1.
        Forger forger = Forger.busy(1);
        Links.loseAll(forger.x, 0);
        Links.loseAll(forger.x, 1);
        again(forger.x, "both", 1, 5);
        Check.due("from 0", forger.x.waiting(0), 3);
        Check.due("from 1", forger.x.waiting(1), 2);
        forger.x.crash(0);
        again(forger.x, "site 1 alone", 1, 2);
    }

    private static void withoutRoom() {
        Check.sentence("how many packets were sent again (also those for which there is no room).");
        Forger forger = Forger.busy(1);
        CountedLink x = forger.x;
        x.crash(1);
        Links.loseAll(x, 0);
        again(x, "room for all", 4, 3);
        Check.due("waiting", x.waiting(0), 12);
        again(x, "room for none", 1, 3);
        Check.due("waiting", x.waiting(0), 12);

        forger = Forger.busy(1);
        x = forger.x;
        x.crash(1);
        again(x, "four lie there", 2, 3);
        Check.due("waiting", x.waiting(0), 10);
        again(x, "room for two of three", 1, 3);
        Check.due("waiting", x.waiting(0), 12);
    }

    private static void fifthTime() {
        Check.sentence("behind the fifth time that it did so without anything acknowledged in between (at the fourth"
                + " tick behind it) it is IDLE instead");
        for (int site = 0; site < 2; site++) {
            CountedLink x = new CountedLink();
            x.call(site);
            again(x, "CALLING", 5, 1);
            Check.due("behind the fifth time", x.told(site, 2), CALLING);
            end(x, "CALLING", site, CALLING);
            Links.ticks(x, "IDLE", 5, 0);
            Check.due("calls begun", x.told(site, 5), 1);
            Check.due("it calls again", x.call(site), true);
            again(x, "CALLING once more", 5, 1);
            end(x, "CALLING once more", site, CALLING);

            x = Forger.busy(100).x;
            x.crash(1 - site);
            again(x, "OPEN", 5, 3 - site);
            Check.due("behind the fifth time", x.told(site, 3), 3 - site);
            end(x, "OPEN", site, site == 0 ? MASTER : SLAVE);
        }
    }

    private static void acknowledgedInBetween() {
        Check.sentence("behind the fifth time that it did so without anything acknowledged in between (at the fourth"
                + " tick behind it) it is IDLE instead");
        for (int times = 4; times <= 5; times++) {
            for (int kind : new int[] {Packets.RR, Packets.RJ}) {
                Forger forger = Forger.busy(1);
                CountedLink x = forger.x;
                again(x, "before", times, 5);
                forger.control(0, kind, 1);
                Check.due("one is acknowledged", x.told(0, 3), 2);
                x.crash(1);
                again(x, "behind " + times + " times", 5, 2);
                end(x, "behind " + times + " times", 0, MASTER);
            }
        }
        // By the y of DATA, at the last tick before the end.
        Forger forger = Forger.busy(1);
        CountedLink x = forger.x;
        again(x, "before", 5, 5);
        Links.ticks(x, "before", 3, 0);
        forger.data(0, 0, 2, 'X');
        x.crash(1);
        again(x, "acknowledged by DATA", 5, 1);
        end(x, "acknowledged by DATA", 0, MASTER);
    }

    private static void notAcknowledgedInBetween() {
        Check.sentence("behind the fifth time that it did so without anything acknowledged in between (at the fourth"
                + " tick behind it) it is IDLE instead");
        // RR and DATA that acknowledge none, and DATA that are accepted, are no reason to go on.
        for (int way = 0; way < 3; way++) {
            Forger forger = Forger.busy(1);
            CountedLink x = forger.x;
            again(x, "before", 5, 5);
            Links.ticks(x, "before", 3, 0);
            if (way == 0) {
                forger.control(0, Packets.RR, 4);
            } else if (way == 1) {
                forger.data(0, 0, 0, 'X');
            } else {
                forger.message(0, 'X');
            }
            x.crash(1);
            Links.told(x, "not acknowledged", 0, 1, 0, MASTER, 3, 0, 1);
            Check.due("the last tick", x.tick(), 0);
            Links.told(x, "the end", 0, 1, 0, IDLE, 0, 0, 1);
        }
        // RJ begins the four ticks anew, not the five times.
        Forger forger = Forger.busy(1);
        CountedLink x = forger.x;
        again(x, "before", 5, 5);
        Links.ticks(x, "before", 3, 0);
        forger.control(0, Packets.RJ, 0);
        x.crash(1);
        end(x, "behind RJ", 0, MASTER);
        // Nor is what is sent for RJ one of the five times.
        forger = Forger.busy(1);
        x = forger.x;
        again(x, "before RJ", 2, 5);
        forger.control(0, Packets.RJ, 0);
        forger.control(0, Packets.RJ, 4);
        x.crash(1);
        again(x, "behind two RJ", 3, 3);
        end(x, "behind two RJ", 0, MASTER);
    }

    private static void from0WhenItComesToBeSo() {
        Check.sentence("(0 when it comes to be so, when something is acknowledged, and when it sends again)");
        // Ticks when nothing was out do not count for what is out then.
        for (int before = 3; before <= 5; before++) {
            CountedLink x = Links.offering(1);
            x.crash(0);
            Links.ticks(x, "SLAVE, nothing out", before, 0);
            x.deliver(0);
            Links.told(x, "Y is out", 1, 0, 0, SLAVE, 1, 0, 0);
            again(x, "Y is out", 1, 1);
        }
        // Nor do those of an earlier call.
        CountedLink x = new CountedLink();
        x.call(0);
        Links.ticks(x, "the first call", 3, 0);
        x.crash(0);
        x.call(0);
        again(x, "the second call", 5, 1);
        end(x, "the second call", 0, CALLING);
        // Nor those of CALLING for the OPEN one.
        x = new CountedLink();
        x.call(0);
        again(x, "CALLING", 5, 1);
        Links.ticks(x, "CALLING", 3, 0);
        x.deliver(0);
        x.deliver(1);
        x.crash(1);
        again(x, "OPEN", 5, 1);
        end(x, "OPEN", 0, MASTER);
    }

    private static void from0WhenAcknowledged() {
        Check.sentence("(0 when it comes to be so, when something is acknowledged, and when it sends again)");
        for (int ticks = 1; ticks <= 3; ticks++) {
            // One of three.
            Forger forger = Forger.busy(1);
            Links.ticks(forger.x, "before RR", ticks, 0);
            forger.control(0, Packets.RR, 1);
            forger.x.crash(1);
            again(forger.x, "behind RR", 1, 2);
            // All, and others are out then.
            forger = Forger.busy(61);
            forger.message(0, 'Y');
            Links.ticks(forger.x, "before RR 3", ticks, 0);
            forger.control(0, Packets.RR, 3);
            forger.x.crash(1);
            Links.told(forger.x, "RR 3", 0, 1, 0, MASTER, 3, 0, 1);
            again(forger.x, "behind RR 3", 1, 3);
        }
    }

    private static void from0WhenItSendsAgain() {
        Check.sentence("(0 when it comes to be so, when something is acknowledged, and when it sends again)");
        for (int ticks = 1; ticks <= 3; ticks++) {
            Forger forger = Forger.busy(1);
            Links.ticks(forger.x, "before RJ", ticks, 0);
            forger.control(0, Packets.RJ, 0);
            forger.x.crash(1);
            again(forger.x, "behind RJ", 1, 3);
        }
    }

    private static void notFrom0Otherwise() {
        Check.sentence("(0 when it comes to be so, when something is acknowledged, and when it sends again)");
        for (int way = 0; way < 4; way++) {
            Forger forger = Forger.busy(1);
            CountedLink x = forger.x;
            Links.ticks(x, "before", 3, 0);
            if (way == 0) {
                forger.control(0, Packets.RR, 0);
            } else if (way == 1) {
                forger.message(0, 'Y');
            } else if (way == 2) {
                forger.control(0, Packets.ANSWER, 0);
            } else {
                forger.data(0, 7, 4, 'Y');
            }
            x.crash(1);
            Check.due("the fourth tick, way " + way, x.tick(), 3);
        }
        // Something more is out, and nothing acknowledged.
        Forger forger = Forger.busy(1);
        CountedLink x = forger.x;
        Links.ticks(x, "before", 3, 0);
        forger.message(1, Packets.offer(0, 0));
        x.crash(0);
        Links.told(x, "N", 1, 0, 1, SLAVE, 3, 0, 0);
        Check.due("the fourth tick", x.tick(), 3);
        // An ANSWER and an INIT that are left out by a CALLING one.
        x = new CountedLink();
        x.call(0);
        x.call(1);
        Links.ticks(x, "CALLING", 3, 0);
        Check.due("INIT", x.deliver(1), 1);
        x.crash(1);
        Check.due("the fourth tick", x.tick(), 1);
        x = new CountedLink();
        x.call(0);
        x.deliver(0);
        Packets.forge(x, 1, Packets.control(Packets.ANSWER, 1));
        Links.ticks(x, "CALLING", 3, 0);
        Check.due("ANSWER 1", x.deliver(1), 1);
        Check.due("the fourth tick", x.tick(), 1);
    }

    private static void idleCountsNothing() {
        Check.sentence("a site that is CALLING, or OPEN with DATA that are out, counts ticks");
        CountedLink x = new CountedLink();
        Links.ticks(x, "IDLE", 50, 0);
        x.call(1);
        again(x, "CALLING", 5, 1);
        end(x, "CALLING", 1, CALLING);
        Links.ticks(x, "IDLE again", 50, 0);
        Check.due("nothing more is sent", x.waiting(1), 6);
    }

    private static void fortyFirstTick() {
        Check.sentence("at the 41st it is IDLE");
        // A SLAVE that heard INIT alone; it answered, and nothing is out.
        for (int site = 0; site < 2; site++) {
            CountedLink x = new CountedLink();
            x.call(1 - site);
            x.deliver(1 - site);
            x.crash(1 - site);
            Links.ticks(x, "SLAVE", 40, 0);
            Check.due("at the 40th", x.told(site, 2), SLAVE);
            Check.due("the 41st", x.tick(), 0);
            Check.due("at the 41st", x.told(site, 2), IDLE);
            Check.due("it sent nothing", x.waiting(site), 1);
        }
        // A MASTER whose S is acknowledged, and who hears no more.
        CountedLink x = Links.offering(1);
        x.deliver(0);
        x.deliver(1);
        x.crash(1);
        Links.ticks(x, "MASTER", 40, 0);
        Links.told(x, "at the 40th", 0, 1, 0, MASTER, 0, 0, 1);
        x.tick();
        Links.told(x, "at the 41st", 0, 1, 0, IDLE, 0, 0, 1);
    }

    private static void fortyFirstFrom0WhenOpen() {
        Check.sentence("from 0 on when it comes to be OPEN, and when something GOOD comes");
        // OPEN for 40 ticks, OPEN anew, and again for 40.
        CountedLink x = new CountedLink();
        x.call(0);
        x.deliver(0);
        x.crash(0);
        Links.ticks(x, "the first time", 40, 0);
        x.call(0);
        x.deliver(0);
        x.crash(0);
        Links.ticks(x, "the second time", 40, 0);
        Check.due("at the 40th", x.told(1, 2), SLAVE);
        x.tick();
        Check.due("at the 41st", x.told(1, 2), IDLE);
        // Crashed behind 40 ticks, and OPEN again.
        x = new CountedLink();
        x.call(0);
        x.deliver(0);
        Links.ticks(x, "before", 3, 0);
        x.crash(0);
        Links.ticks(x, "before", 37, 0);
        x.crash(1);
        x.call(0);
        x.deliver(0);
        x.crash(0);
        Links.ticks(x, "behind", 40, 0);
        Check.due("at the 40th", x.told(1, 2), SLAVE);
        x.tick();
        Check.due("at the 41st", x.told(1, 2), IDLE);
    }

    /** Site 0, MASTER, has nothing out and hears this behind 40 ticks; site 1 has called since and keeps calling. */
    private static CountedLink hearsBehind40(int[] packet, int good) {
        CountedLink x = Links.offering(1);
        x.deliver(0);
        x.deliver(1);
        x.crash(1);
        Links.ticks(x, "quiet", 38, 0);
        x.call(1);
        Packets.forge(x, 1, packet);
        Links.ticks(x, "quiet", 2, 0);
        Links.told(x, "quiet", 0, 1, 0, MASTER, 0, 0, 1);
        Check.due("deliver", x.deliver(1), good);
        x.crash(1);
        return x;
    }

    private static void fortyFirstFrom0WhenGoodComes() {
        Check.sentence("from 0 on when it comes to be OPEN, and when something GOOD comes");
        // ANSWER is left out, RR and RJ acknowledge nothing: GOOD all the same.
        for (int kind : new int[] {Packets.ANSWER, Packets.RR, Packets.RJ}) {
            CountedLink x = hearsBehind40(Packets.control(kind, 5), 1);
            Links.ticks(x, "behind a GOOD one", 40, 0);
            Check.due("at the 40th", x.told(0, 2), MASTER);
            x.tick();
            Check.due("at the 41st", x.told(0, 2), IDLE);
        }
        CountedLink x = hearsBehind40(Packets.control(3, 5), 0);
        Check.due("behind one that is not GOOD", x.told(0, 2), MASTER);
        x.tick();
        Check.due("at the 41st", x.told(0, 2), IDLE);
        // DATA that are not accepted.
        x = Links.offering(1);
        x.deliver(0);
        x.deliver(1);
        Packets.forge(x, 1, Packets.data(5, 0, 'Y'));
        x.crash(1);
        Links.ticks(x, "quiet", 40, 0);
        Check.due("DATA", x.deliver(1), 1);
        Links.ticks(x, "behind DATA", 40, 0);
        Check.due("at the 40th", x.told(0, 2), MASTER);
        x.tick();
        Check.due("at the 41st", x.told(0, 2), IDLE);
    }

    private static void standsStillWhileDataAreOut() {
        Check.sentence("the count stands still while DATA are out");
        // 60 ticks with DATA out, one of which is acknowledged at times.
        Forger forger = Forger.busy(1);
        CountedLink x = forger.x;
        again(x, "three out", 5, 5);
        forger.control(0, Packets.RR, 1);
        x.crash(1);
        again(x, "two out", 5, 2);
        Links.told(x, "40 ticks", 0, 1, 0, MASTER, 2, 0, 1);
        Links.ticks(x, "40 ticks", 3, 0);
        Links.told(x, "43 ticks", 0, 1, 0, MASTER, 2, 0, 1);
        // Behind what was out for 23 ticks the site is quiet for 40 more.
        x = Links.offering(1);
        x.deliver(0);
        x.lose(1);
        Packets.forge(x, 1, Packets.data(7, 1, 'Y'));
        x.crash(1);
        again(x, "S is out", 5, 1);
        Links.ticks(x, "S is out", 3, 0);
        Check.due("DATA that acknowledge S", x.deliver(1), 1);
        Links.told(x, "nothing is out", 0, 1, 0, MASTER, 0, 0, 1);
        Links.ticks(x, "nothing is out", 40, 0);
        Check.due("at the 40th", x.told(0, 2), MASTER);
        x.tick();
        Check.due("at the 41st", x.told(0, 2), IDLE);
    }
}
