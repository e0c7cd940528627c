/** Promises 4, 5, 9 and 13: the boundary cases of calls, sessions, windows and crashes. */
public final class BoundarySessionTest {
    private static final int IDLE = 0;
    private static final int CALLING = 1;
    private static final int MASTER = 2;
    private static final int SLAVE = 3;

    public static void main(String[] args) {
        callEmptiesTheLine();
        callModulo8();
        callOfOneThatIsNotIdle();
        initWhateverItWas();
        initToCalling();
        initOfTheSameY();
        initBehindEightAccepted();
        initBeforeAnythingIsAccepted();
        initToOneThatWasOpenedOtherwise();
        answerOfThisY();
        answerToOthers();
        othersUnlessOpen();
        closeOfAnyY();
        notGood();
        numbersComeRound();
        threeOut();
        acknowledgedIfOut();
        sentAsFarAsThree();
        askedForAgain();
        dataAcknowledgesFirst();
        acceptedNumbers();
        crashOfNoSuchSite();
        idleForgets();
        openAnewForgets();
        Check.end();
    }

    private static void callEmptiesTheLine() {
        Check.sentence("all packets on the line are gone");
        for (int caller = 0; caller < 2; caller++) {
            CountedLink x = Links.offering(100);
            x.deliver(0);
            x.deliver(1);
            x.deliver(1);
            x.deliver(0);
            x.deliver(0);
            for (int i = 0; i < 16; i++) {
                x.tick();
            }
            Check.due("full", x.waiting(0), 12);
            Check.due("one", x.waiting(1), 1);
            x.crash(caller);
            Check.due("call", x.call(caller), true);
            Links.lies(x, "called", caller, Packets.control(Packets.INIT, caller == 0 ? 1 : 0));
            Links.lies(x, "called", 1 - caller);
        }
    }

    private static void callModulo8() {
        Check.sentence("y being how many calls it had begun, modulo 8");
        CountedLink x = new CountedLink();
        for (int i = 0; i < 18; i++) {
            Check.due("call " + i, x.call(0), true);
            Links.lies(x, "call " + i, 0, Packets.control(Packets.INIT, i % 8));
            Check.due("calls begun", x.told(0, 5), i + 1);
            x.crash(0);
        }
        Check.due("calls of the other one", x.told(1, 5), 0);
        x.call(1);
        Links.lies(x, "its first call", 1, Packets.control(Packets.INIT, 0));
        // Behind the eighth call the y that is sent again and answered is 7, behind the ninth 0.
        for (int calls = 8; calls <= 9; calls++) {
            x = new CountedLink();
            for (int i = 0; i < calls; i++) {
                x.crash(0);
                x.call(0);
            }
            x.lose(0);
            Links.ticks(x, "INIT again", 3, 0);
            Check.due("INIT again", x.tick(), 1);
            Links.lies(x, "INIT again", 0, Packets.control(Packets.INIT, calls - 1 & 7));
            x.deliver(0);
            x.deliver(1);
            Check.due("answered", x.told(0, 2), MASTER);
        }
    }

    private static void callOfOneThatIsNotIdle() {
        Check.sentence("False when there is no such site, or it is not IDLE.");
        for (int caller = 0; caller < 2; caller++) {
            CountedLink x = new CountedLink();
            for (int site : Links.NO_SITES) {
                Check.due("call(" + site + ")", x.call(site), false);
            }
            Check.due("IDLE", x.call(caller), true);
            dueRefused(x, caller, CALLING, 1, 0);
            x.deliver(caller);
            dueRefused(x, 1 - caller, SLAVE, 0, 1);
            x.deliver(1 - caller);
            dueRefused(x, caller, MASTER, 1, 0);
            for (int site : Links.NO_SITES) {
                Check.due("call(" + site + ")", x.call(site), false);
            }
            Check.due("the line stays", x.waiting(caller), 1);
            x.settle(200);
            Check.due("IDLE again", x.call(1 - caller), true);
        }
    }

    /** A call that changes nothing; one packet lies on the line. */
    private static void dueRefused(CountedLink x, int site, int state, int ownCalls, int callsOfTheOther) {
        Check.due("call in state " + state, x.call(site), false);
        Check.due("state", x.told(site, 2), state);
        Check.due("calls begun", x.told(site, 5), ownCalls);
        Check.due("calls of the other one", x.told(1 - site, 5), callsOfTheOther);
        Check.due("the line stays", x.waiting(0) + x.waiting(1), 1);
    }

    private static void initWhateverItWas() {
        Check.sentence("it is OPEN anew as SLAVE (whatever it was), and sends ANSWER y");
        for (int y : new int[] {0, 7}) {
            for (int to = 0; to < 2; to++) {
                CountedLink x = new CountedLink();
                x.call(1 - to);
                Packets.forge(x, 1 - to, Packets.control(Packets.INIT, y));
                Check.due("INIT to an IDLE one", x.deliver(1 - to), 1);
                Links.told(x, "INIT to an IDLE one", to, 0, 0, SLAVE, 0, 0, 0);
                Links.lies(x, "INIT to an IDLE one", to, Packets.control(Packets.ANSWER, y));
            }
            Forger forger = Forger.busy(100);
            forger.control(0, Packets.INIT, y);
            Links.told(forger.x, "INIT to a MASTER", 0, 1, 0, SLAVE, 0, 0, 1);
            Links.lies(forger.x, "INIT to a MASTER", 0, Packets.control(Packets.ANSWER, y));
        }
        Forger forger = Forger.busy(100);
        forger.control(1, Packets.INIT, 7);
        Links.told(forger.x, "INIT to a SLAVE", 1, 0, 1, SLAVE, 0, 0, 0);
        Links.lies(forger.x, "INIT to a SLAVE", 1, Packets.control(Packets.ANSWER, 7));
    }

    private static void initToCalling() {
        Check.sentence("site 0, when it is CALLING, leaves it out");
        for (int to = 0; to < 2; to++) {
            CountedLink x = new CountedLink();
            x.call(to);
            x.call(1 - to);
            Links.told(x, "CALLING", to, 0, 0, CALLING, 0, 0, 1);
            Check.due("INIT", x.deliver(1 - to), 1);
            Links.told(x, "INIT came", to, 0, 0, to == 0 ? CALLING : SLAVE, 0, 0, 1);
            Check.due("answered", x.waiting(to), to == 0 ? 0 : 1);
        }
        CountedLink x = new CountedLink();
        x.call(0);
        x.crash(0);
        x.call(1);
        x.deliver(1);
        Links.told(x, "INIT to site 0 that is IDLE", 0, 0, 0, SLAVE, 0, 0, 1);
    }

    private static void initOfTheSameY() {
        Check.sentence("so does an OPEN SLAVE that became so by INIT of the same y and has accepted DATA since");
        for (int y = 0; y < 8; y++) {
            Forger forger = Forger.busy(1);
            forger.control(1, Packets.INIT, y);
            boolean same = y == 0;
            Links.told(forger.x, "INIT " + y + " behind 0", 1, 0, 1, SLAVE, same ? 2 : 0, 0, 0);
            Check.due("INIT " + y + " behind 0 is answered", forger.x.waiting(1), same ? 0 : 1);
        }
        Forger forger = Forger.busy(1);
        forger.control(1, Packets.INIT, 5);
        forger.data(1, 1, 0, 'D');
        forger.control(1, Packets.INIT, 0);
        Links.lies(forger.x, "INIT 0 behind INIT 5", 1, Packets.control(Packets.ANSWER, 0));
        // Site 0 does the same.
        CountedLink x = new CountedLink();
        Links.addJob(x, 1, 1);
        x.call(1);
        x.deliver(1);
        x.deliver(0);
        x.deliver(1);
        for (int i = 0; i < 8; i++) {
            x.crash(1);
            x.call(1);
        }
        Links.lies(x, "the ninth call", 1, Packets.control(Packets.INIT, 0));
        x.deliver(1);
        Links.told(x, "INIT 0 to site 0", 0, 0, 0, SLAVE, 1, 0, 0);
        Links.lies(x, "INIT 0 to site 0", 0);
    }

    private static void initBehindEightAccepted() {
        Check.sentence("so does an OPEN SLAVE that became so by INIT of the same y and has accepted DATA since");
        CountedLink x = windowAcross0();
        x.deliver(0);
        x.deliver(0);
        Check.due("the number accepted last is 0 once more", x.look(1, 1, 4), 8 * Packets.RR);
        for (int i = 0; i < 8; i++) {
            x.crash(0);
            x.call(0);
        }
        Links.lies(x, "the ninth call", 0, Packets.control(Packets.INIT, 0));
        x.deliver(0);
        Links.lies(x, "INIT 0 behind eight DATA", 1);
    }

    private static void initBeforeAnythingIsAccepted() {
        Check.sentence("so does an OPEN SLAVE that became so by INIT of the same y and has accepted DATA since");
        Forger forger = Forger.busy(1);
        forger.control(1, Packets.INIT, 3);
        int[] answer = Packets.control(Packets.ANSWER, 3);
        forger.control(1, Packets.INIT, 3);
        Links.lies(forger.x, "INIT 3 twice", 1, answer);
        // DATA that are not the next ones are not accepted, and other controls are no DATA.
        forger.data(1, 2, 0, 'D');
        forger.data(1, 0, 0, 'D');
        forger.control(1, Packets.RR, 0);
        forger.control(1, Packets.INIT, 3);
        Links.lies(forger.x, "INIT 3 behind what is not accepted", 1, answer);
        forger.data(1, 1, 0, 'D');
        forger.control(1, Packets.INIT, 3);
        Links.lies(forger.x, "INIT 3 behind what is accepted", 1);
    }

    private static void initToOneThatWasOpenedOtherwise() {
        Check.sentence("so does an OPEN SLAVE that became so by INIT of the same y and has accepted DATA since");
        // Site 0 was opened by ANSWER 0, and is SLAVE by T.
        Forger forger = Forger.busy(1);
        forger.message(0, 'T');
        Links.told(forger.x, "T", 0, 1, 0, SLAVE, 3, 0, 1);
        forger.control(0, Packets.INIT, 0);
        Links.told(forger.x, "INIT 0", 0, 1, 0, SLAVE, 0, 0, 1);
        Links.lies(forger.x, "INIT 0", 0, Packets.control(Packets.ANSWER, 0));
        // It was so, too, when an earlier session of it had been opened by INIT 0.
        CountedLink x = new CountedLink();
        x.call(1);
        x.deliver(1);
        Check.due("the earlier session", x.told(0, 2), SLAVE);
        x.crash(0);
        x.crash(1);
        forger = Forger.busyOn(x, 1);
        forger.message(0, 'T');
        forger.control(0, Packets.INIT, 0);
        Links.told(x, "INIT 0 behind an earlier one", 0, 1, 0, SLAVE, 0, 0, 1);
        // Site 1 was opened by INIT 0, and is MASTER by H.
        forger = Forger.busy(1);
        forger.x.queue(1);
        forger.message(1, 'H');
        Links.told(forger.x, "H", 1, 1, 1, MASTER, 3, 1, 0);
        forger.control(1, Packets.INIT, 0);
        Links.told(forger.x, "INIT 0 to a MASTER", 1, 1, 1, SLAVE, 0, 0, 0);
        Links.lies(forger.x, "INIT 0 to a MASTER", 1, Packets.control(Packets.ANSWER, 0));
    }

    private static void answerOfThisY() {
        Check.sentence("a CALLING one whose call had this y is OPEN, MASTER, and goes on to its NEXT job");
        for (int y = 0; y < 8; y++) {
            CountedLink x = new CountedLink();
            for (int i = 0; i < 8; i++) {
                x.crash(1);
                x.call(1);
            }
            x.deliver(1);
            Packets.forge(x, 0, Packets.control(Packets.ANSWER, y));
            Check.due("ANSWER " + y, x.deliver(0), 1);
            Check.due("state behind ANSWER " + y, x.told(1, 2), y == 7 ? MASTER : CALLING);
            Check.due("sent behind ANSWER " + y, x.waiting(1), y == 7 ? 1 : 0);
        }
    }

    private static void answerToOthers() {
        Check.sentence("others leave it out");
        for (int to = 0; to < 2; to++) {
            Forger forger = Forger.busy(1);
            forger.control(to, Packets.ANSWER, 0);
            Links.told(forger.x, "ANSWER to an OPEN one", to, 1 - to, to, to == 0 ? MASTER : SLAVE, 3 - to, 0, 1 - to);
            Links.lies(forger.x, "ANSWER to an OPEN one", to);
            CountedLink x = new CountedLink();
            x.call(1 - to);
            Packets.forge(x, 1 - to, Packets.control(Packets.ANSWER, 0));
            Check.due("ANSWER to an IDLE one", x.deliver(1 - to), 1);
            Links.told(x, "ANSWER to an IDLE one", to, 0, 0, IDLE, 0, 0, 0);
            Links.lies(x, "ANSWER to an IDLE one", to);
        }
    }

    private static void othersUnlessOpen() {
        Check.sentence("All others are left out unless it is OPEN.");
        for (int kind : new int[] {Packets.CLOSE, Packets.RJ, Packets.RR}) {
            CountedLink x = new CountedLink();
            x.call(0);
            x.deliver(0);
            Packets.forge(x, 1, Packets.control(kind, 0));
            Check.due("to a CALLING one", x.deliver(1), 1);
            Links.told(x, "to a CALLING one", 0, 0, 0, CALLING, 0, 0, 1);
            Links.lies(x, "to a CALLING one", 0);
            x = new CountedLink();
            x.call(0);
            Packets.forge(x, 0, Packets.control(kind, 0));
            Check.due("to an IDLE one", x.deliver(0), 1);
            Links.told(x, "to an IDLE one", 1, 0, 0, IDLE, 0, 0, 0);
            Links.lies(x, "to an IDLE one", 1);
        }
        CountedLink x = Links.offering(0);
        x.crash(1);
        Check.due("DATA to an IDLE one", x.deliver(0), 1);
        Links.told(x, "DATA to an IDLE one", 1, 0, 0, IDLE, 0, 0, 0);
        Links.lies(x, "DATA to an IDLE one", 1);
    }

    private static void closeOfAnyY() {
        Check.sentence("1 CLOSE (y 0 when it is sent; any is taken)");
        for (int y = 0; y < 8; y++) {
            Forger forger = Forger.busy(1);
            forger.control(0, Packets.CLOSE, y);
            Links.told(forger.x, "CLOSE " + y + " to a MASTER", 0, 1, 0, IDLE, 0, 0, 1);
            Links.lies(forger.x, "CLOSE " + y + " to a MASTER", 0);
            forger = Forger.busy(1);
            forger.control(1, Packets.CLOSE, y);
            Links.told(forger.x, "CLOSE " + y + " to a SLAVE", 1, 0, 1, IDLE, 0, 0, 0);
        }
        Forger forger = Forger.busy();
        forger.messageThatAcknowledges(0, 3, 'H');
        Links.lies(forger.x, "H", 0, Packets.control(Packets.RR, 3), Packets.control(Packets.CLOSE, 0));
    }

    private static void notGood() {
        Check.sentence("RJ with the one accepted last is sent if the site is OPEN; otherwise it is left out.");
        CountedLink x = new CountedLink();
        x.call(0);
        x.alter(0, 1, 1);
        Check.due("to an IDLE one", x.deliver(0), 0);
        Links.lies(x, "to an IDLE one", 1);
        Links.told(x, "to an IDLE one", 1, 0, 0, IDLE, 0, 0, 0);
        x = new CountedLink();
        x.call(0);
        x.deliver(0);
        x.alter(1, 1, 1);
        Check.due("to a CALLING one", x.deliver(1), 0);
        Links.lies(x, "to a CALLING one", 0);
        Links.told(x, "to a CALLING one", 0, 0, 0, CALLING, 0, 0, 1);
        x = Links.offering(0);
        x.alter(0, 6, 1);
        Check.due("before anything is accepted", x.deliver(0), 0);
        Links.lies(x, "before anything is accepted", 1, Packets.control(Packets.RJ, 0));
    }

    /**
     * Site 0 sent S 1 to S 5 for empty files and S 6, and has D 7, 0 and 1 out, D 2 waits; on the wire from 0 they
     * lie alone, the one from 1 is empty.
     */
    private static CountedLink windowAcross0() {
        CountedLink x = new CountedLink();
        for (int i = 0; i < 5; i++) {
            x.queue(0);
        }
        Links.addJob(x, 0, 100);
        x.call(0);
        for (int i = 0; i < 100 && x.told(0, 3) < 3; i++) {
            x.settle(1);
        }
        Links.loseAll(x, 1);
        while (x.look(0, 0, 6) == -1 && x.lose(0)) {
            continue;
        }
        Links.told(x, "window across 0", 0, 1, 0, MASTER, 3, 1, 1);
        return x;
    }

    private static int number(CountedLink x, int from, int k) {
        return x.look(from, k, 4) - 128 >> 3;
    }

    private static void numbersComeRound() {
        Check.sentence("numbers its DATA 1, 2, .. 7, 0, 1, ..");
        CountedLink x = new CountedLink();
        for (int i = 0; i < 12; i++) {
            x.queue(0);
        }
        x.call(0);
        int[] sent = {0, 0};
        for (int i = 0; i < 90; i++) {
            int from = x.waiting(0) > 0 ? 0 : 1;
            if (x.look(from, 0, 6) != -1) {
                sent[from]++;
                Check.due("DATA " + sent[from] + " from " + from, number(x, from, 0), sent[from] % 8);
            }
            x.deliver(from);
        }
        // S for each job and H; Y and C for each job and H.
        Check.due("sent by 0", sent[0], 13);
        Check.due("sent by 1", sent[1], 25);
    }

    private static void threeOut() {
        Check.sentence("at most 3 are out");
        int[][] wanted = {{1, 1, 0}, {30, 1, 0}, {31, 2, 0}, {60, 2, 0}, {61, 3, 0}, {90, 3, 0}, {91, 3, 1},
            {100, 3, 1}};
        for (int[] each : wanted) {
            CountedLink x = Links.offering(each[0]);
            x.deliver(0);
            x.deliver(1);
            x.deliver(1);
            Links.told(x, "file of " + each[0], 0, 1, 0, MASTER, each[1], each[2], 1);
            Check.due("RR and D of " + each[0], x.waiting(0), 1 + each[1]);
        }
    }

    private static void acknowledgedIfOut() {
        Check.sentence("those that are out up to y (if y is one of them) are acknowledged");
        int[] known = {2, 3, 0, 0, 0, 0, 0, 1};
        for (int kind : new int[] {Packets.RR, Packets.RJ}) {
            for (int y = 0; y < 8; y++) {
                CountedLink x = windowAcross0();
                x.deliver(0);
                Links.loseAll(x, 0);
                Packets.forge(x, 1, Packets.control(kind, y));
                x.deliver(1);
                int more = known[y] > 0 ? 1 : 0;
                String when = (kind == Packets.RR ? "RR " : "RJ ") + y;
                Links.told(x, when, 0, 1, 0, MASTER, 3 - known[y] + more, 1 - more, 1);
                // The last one sent is D 2, which waited, or D 1.
                int sent = more + (kind == Packets.RR ? 0 : 3 - known[y]);
                Check.due("sent for " + when, x.waiting(0), sent);
                for (int k = 0; k < sent; k++) {
                    Check.due("DATA sent for " + when, number(x, 0, k), 1 + more - (sent - 1 - k) & 7);
                }
            }
        }
    }

    private static void sentAsFarAsThree() {
        Check.sentence("what waits is sent as far as 3 may be out");
        for (int y = 0; y <= 4; y++) {
            Forger forger = Forger.busy(100);
            CountedLink x = forger.x;
            forger.message(0, 'Y');
            Links.told(x, "Y", 0, 1, 0, MASTER, 3, 4, 1);
            forger.control(0, Packets.RR, y);
            int known = y <= 3 ? y : 0;
            Links.told(x, "RR " + y, 0, 1, 0, MASTER, 3, 4 - known, 1);
            Check.due("sent for RR " + y, x.waiting(0), known);
            for (int k = 0; k < known; k++) {
                Check.due("DATA sent for RR " + y, x.look(0, k, 4), 128 + 8 * (4 + k) + 3);
            }
        }
        // Less waits than may be out.
        Forger forger = Forger.busy(31);
        forger.message(0, 'Y');
        forger.control(0, Packets.RR, 3);
        Links.told(forger.x, "RR 3, and two wait", 0, 1, 0, MASTER, 2, 0, 1);
        Check.due("sent for RR 3", forger.x.waiting(0), 2);
    }

    private static void askedForAgain() {
        Check.sentence("for RJ, before that, all that are still out are sent again (in their order)");
        int[][] wanted = {{1, 2, 3}, {2, 3, 4}, {3, 4, 5}, {4, 5, 6}, {1, 2, 3}};
        for (int y = 0; y <= 4; y++) {
            Forger forger = Forger.busy(100);
            forger.message(0, 'Y');
            forger.control(0, Packets.RJ, y);
            Check.due("sent for RJ " + y, forger.x.waiting(0), 3);
            for (int k = 0; k < 3; k++) {
                // Site 0 accepted 3 since the first ones were sent.
                Check.due("C of what is sent for RJ " + y, forger.x.look(0, k, 4), 128 + 8 * wanted[y][k] + 3);
            }
        }
        // None is out, none is sent.
        Forger forger = Forger.busy(1);
        forger.messageThatAcknowledges(1, 2, 'D');
        Links.told(forger.x, "none out", 1, 0, 1, SLAVE, 0, 0, 0);
        forger.control(1, Packets.RJ, 2);
        Links.lies(forger.x, "RJ when none is out", 1);
    }

    private static void dataAcknowledgesFirst() {
        Check.sentence("y first; if x is the number behind the one accepted last (0 at first), it is accepted");
        for (int number = 0; number < 8; number++) {
            Forger forger = Forger.busy(31, 1);
            CountedLink x = forger.x;
            forger.message(0, 'Y');
            Links.told(x, "Y", 0, 2, 0, MASTER, 3, 2, 1);
            // It accepted 3 by now. What waits tells so; what is sent for N tells what is accepted then.
            forger.data(0, number, 3, 'N');
            boolean accepted = number == 4;
            Links.told(x, "N as DATA " + number, 0, accepted ? 1 : 2, 0, MASTER, accepted ? 3 : 2, 0, 1);
            int[] got = new int[4];
            for (int k = 0; k < 4; k++) {
                got[k] = x.look(0, k, 4);
            }
            int[] wanted = {128 + 8 * 4 + 3, 128 + 8 * 5 + 3, 8 * Packets.RR + (accepted ? 4 : 3),
                accepted ? 128 + 8 * 6 + 4 : -1};
            Check.due("sent for DATA " + number, got, wanted);
        }
    }

    private static void acceptedNumbers() {
        Check.sentence("y first; if x is the number behind the one accepted last (0 at first), it is accepted");
        // Site 1 accepted none, 7, and 8 of them: the next ones are 1, 0 and 1.
        for (int before : new int[] {0, 7, 8}) {
            for (int number = 0; number < 8; number++) {
                CountedLink x = before == 0 ? Links.offering(1) : windowAcross0();
                for (int i = 7; i <= before; i++) {
                    x.deliver(0);
                }
                Links.loseAll(x, 1);
                Packets.forge(x, 0, Packets.data(number, 7, 'X'));
                Check.due("DATA " + number, x.deliver(0), 1);
                int next = before + 1 & 7;
                int wanted = number == next ? next : before & 7;
                Links.lies(x, "DATA " + number + " behind " + before, 1, Packets.control(Packets.RR, wanted));
            }
        }
    }

    private static void crashOfNoSuchSite() {
        Check.sentence("False when there is none such.");
        Forger forger = Forger.busy(1);
        CountedLink x = forger.x;
        for (int site : Links.NO_SITES) {
            Check.due("crash(" + site + ")", x.crash(site), false);
        }
        Links.told(x, "not crashed", 0, 1, 0, MASTER, 3, 0, 1);
        Links.told(x, "not crashed", 1, 0, 1, SLAVE, 2, 0, 0);
        Check.due("crash(1)", x.crash(1), true);
        Links.told(x, "crashed", 1, 0, 1, IDLE, 0, 0, 0);
        Links.told(x, "the other one has not crashed", 0, 1, 0, MASTER, 3, 0, 1);
        Check.due("crash(0)", x.crash(0), true);
        Links.told(x, "crashed", 0, 1, 0, IDLE, 0, 0, 1);
        Check.due("crash of an IDLE one", x.crash(0), true);
        Links.told(x, "crashed again", 0, 1, 0, IDLE, 0, 0, 1);
        Check.due("the line stays", x.waiting(0), 4);
    }

    private static void idleForgets() {
        Check.sentence("A site that becomes IDLE, or OPEN anew, forgets all of its session: what is out or waits, what"
                + " it takes, its counts.");
        for (int way = 0; way < 4; way++) {
            Forger forger = Forger.busy(100);
            CountedLink x = forger.x;
            forger.message(0, 'Y');
            if (way == 0) {
                forger.control(0, Packets.CLOSE, 0);
            } else if (way == 1) {
                forger.message(0, 'H');
            } else if (way == 2) {
                x.crash(0);
            } else {
                for (int i = 0; i < 24; i++) {
                    x.tick();
                }
            }
            Links.told(x, "IDLE by way " + way, 0, 1, 0, IDLE, 0, 0, 1);
            x.call(0);
            x.deliver(0);
            x.deliver(1);
            Links.lies(x, "MASTER behind way " + way, 0, Packets.data(1, 0, Packets.offer(2, 100)));
            Links.told(x, "MASTER behind way " + way, 0, 1, 0, MASTER, 1, 0, 2);
            Links.ticks(x, "way " + way, 3, 0);
            Check.due("S again", x.tick(), 1);
        }
    }

    private static void openAnewForgets() {
        Check.sentence("A site that becomes IDLE, or OPEN anew, forgets all of its session: what is out or waits, what"
                + " it takes, its counts.");
        Forger forger = Forger.busy(1);
        CountedLink x = forger.x;
        forger.message(1, Packets.offer(9, 2));
        forger.message(1, 'D', 1);
        forger.message(1, Packets.offer(0, 0));
        Links.told(x, "N waits", 1, 0, 1, SLAVE, 3, 1, 0);
        forger.control(1, Packets.INIT, 6);
        Links.told(x, "OPEN anew", 1, 0, 1, SLAVE, 0, 0, 0);
        forger.data(1, 1, 0, 'D', 2);
        Links.told(x, "D for what is forgotten", 1, 0, 1, SLAVE, 0, 0, 0);
        Links.lies(x, "D for what is forgotten", 1, Packets.control(Packets.RR, 1));
        forger.data(1, 2, 0, Packets.offer(9, 2));
        Links.lies(x, "Y", 1, Packets.control(Packets.RR, 2), Packets.data(1, 2, 'Y'));
        forger.data(1, 3, 0, 'D', 3);
        Check.due("executed", x.told(1, 1), 1);
        forger.data(1, 4, 0, 'D', 4);
        Check.due("executed then", x.told(1, 1), 2);
        Check.due("byte 0", x.file(1, 1, 0), 3);
        Check.due("byte 1", x.file(1, 1, 1), 4);
    }
}
