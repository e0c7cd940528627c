/** Promises 4, 5 and 13: how sessions begin and end, windows, packets asked for again. */
public final class SessionTest {
    public static void main(String[] args) {
        callsThatMeet();
        initTwice();
        initOfTheSameYBehindData();
        initOfTheSameYBehindEightData();
        initOpensAMasterAnew();
        answers();
        closes();
        othersAreLeftOutUnlessOpen();
        notGoodPackets();
        acknowledgements();
        askedForAgain();
        askedForAgainWithoutAnyAcknowledged();
        sentAgainWithWhatWasAcceptedLast();
        dataOutOfOrder();
        numbersComeRound();
        Check.end();
    }

    private static void callsThatMeet() {
        CountedLink x = new CountedLink();
        x.call(0);
        x.call(1);
        Links.ticks(x, "calls that meet", 3, 0);
        Check.due("both call again", x.tick(), 2);
        x.lose(1);
        Links.lies(x, "calls that meet", 0, Packets.control(Packets.INIT, 0));
        Links.lies(x, "calls that meet", 1, Packets.control(Packets.INIT, 0));
        Check.due("INIT to 0", x.deliver(1), 1);
        Links.told(x, "INIT to 0", 0, 0, 0, 1, 0, 0, 1);
        Check.due("no answer", x.waiting(0), 1);
        Check.due("INIT to 1", x.deliver(0), 1);
        Links.told(x, "INIT to 1", 1, 0, 0, 3, 0, 0, 1);
        Links.lies(x, "INIT to 1", 1, Packets.control(Packets.ANSWER, 0));
        x.deliver(1);
        Links.told(x, "ANSWER to 0", 0, 0, 0, 2, 1, 0, 1);
        Links.lies(x, "ANSWER to 0", 0, Packets.data(1, 0, 'H'));
    }

    private static void initTwice() {
        CountedLink x = new CountedLink();
        Links.addJob(x, 0, 3);
        x.call(0);
        Links.ticks(x, "INIT twice", 3, 0);
        Check.due("INIT again", x.tick(), 1);
        x.deliver(0);
        x.deliver(0);
        int[] answer = Packets.control(Packets.ANSWER, 0);
        Links.lies(x, "INIT twice", 1, answer, answer);
        x.deliver(1);
        Links.told(x, "ANSWER", 0, 1, 0, 2, 1, 0, 1);
        Check.due("ANSWER again", x.deliver(1), 1);
        Links.told(x, "ANSWER again", 0, 1, 0, 2, 1, 0, 1);
        Links.lies(x, "ANSWER again", 0, Packets.data(1, 0, Packets.offer(0, 3)));
    }

    /** Site 0 calls so often that the next INIT has this y. */
    private static void callWith(CountedLink x, int y) {
        do {
            x.crash(0);
            x.call(0);
        } while ((x.told(0, 5) - 1) % 8 != y);
        Links.lies(x, "call with " + y, 0, Packets.control(Packets.INIT, y));
    }

    private static void initOfTheSameYBehindData() {
        for (int y = 0; y < 8; y++) {
            CountedLink x = Links.offering(5);
            x.deliver(0);
            callWith(x, y);
            Check.due("INIT " + y, x.deliver(0), 1);
            Links.told(x, "INIT " + y + " behind INIT 0", 1, 0, 0, 3, y == 0 ? 1 : 0, 0, 0);
            Check.due("answered " + y, x.waiting(1), y == 0 ? 0 : 1);
        }
        CountedLink x = Links.offering(5);
        callWith(x, 0);
        x.deliver(0);
        Links.lies(x, "INIT 0 before DATA", 1, Packets.control(Packets.ANSWER, 0));
    }

    private static void initOfTheSameYBehindEightData() {
        CountedLink x = new CountedLink();
        for (int i = 0; i < 5; i++) {
            Links.addJob(x, 0, 1);
        }
        x.call(0);
        while (x.told(1, 1) < 4) {
            x.settle(1);
        }
        // S and D for each of four jobs: the number accepted last is 0 once more.
        callWith(x, 0);
        x.deliver(0);
        Links.lies(x, "INIT 0 behind eight DATA", 1);
    }

    private static void initOpensAMasterAnew() {
        CountedLink x = Links.offering(5);
        x.crash(1);
        x.call(1);
        x.deliver(1);
        Links.told(x, "INIT to a MASTER", 0, 1, 0, 3, 0, 0, 1);
        Links.lies(x, "INIT to a MASTER", 0, Packets.control(Packets.ANSWER, 0));
        x.deliver(0);
        Links.told(x, "then", 1, 0, 0, 2, 1, 0, 1);
    }

    private static void answers() {
        for (int y = 0; y < 8; y++) {
            CountedLink x = new CountedLink();
            callWith(x, 3);
            x.deliver(0);
            Packets.forge(x, 1, Packets.control(Packets.ANSWER, y));
            Check.due("ANSWER " + y, x.deliver(1), 1);
            Check.due("state behind ANSWER " + y, x.told(0, 2), y == 3 ? 2 : 1);
            Check.due("sent behind ANSWER " + y, x.waiting(0), y == 3 ? 1 : 0);
        }
        CountedLink x = new CountedLink();
        x.call(0);
        x.deliver(0);
        x.crash(0);
        Check.due("ANSWER to an IDLE one", x.deliver(1), 1);
        Links.told(x, "ANSWER to an IDLE one", 0, 0, 0, 0, 0, 0, 1);
    }

    private static void closes() {
        for (int y = 0; y < 8; y++) {
            CountedLink x = Links.offering(100);
            x.deliver(0);
            x.deliver(1);
            x.deliver(1);
            Links.told(x, "before CLOSE", 0, 1, 0, 2, 3, 1, 1);
            x.lose(0);
            x.deliver(0);
            Packets.forge(x, 1, Packets.control(Packets.CLOSE, y));
            Check.due("CLOSE " + y, x.deliver(1), 1);
            Links.told(x, "CLOSE " + y, 0, 1, 0, 0, 0, 0, 1);
        }
    }

    private static void othersAreLeftOutUnlessOpen() {
        for (int kind : new int[] {Packets.CLOSE, Packets.RJ, Packets.RR}) {
            CountedLink x = new CountedLink();
            x.call(0);
            x.deliver(0);
            Packets.forge(x, 1, Packets.control(kind, 0));
            Check.due("to a CALLING one", x.deliver(1), 1);
            Links.told(x, "to a CALLING one", 0, 0, 0, 1, 0, 0, 1);
            Check.due("nothing sent", x.waiting(0), 0);
        }
        CountedLink x = Links.offering(5);
        x.crash(1);
        Check.due("DATA to an IDLE one", x.deliver(0), 1);
        Links.told(x, "DATA to an IDLE one", 1, 0, 0, 0, 0, 0, 0);
        Check.due("nothing sent", x.waiting(1), 0);
    }

    private static void notGoodPackets() {
        CountedLink x = new CountedLink();
        x.call(0);
        x.deliver(0);
        x.alter(1, 0, 1);
        Check.due("not GOOD to a CALLING one", x.deliver(1), 0);
        Links.lies(x, "not GOOD to a CALLING one", 0);
        x = Links.offering(5);
        x.deliver(0);
        x.deliver(1);
        x.deliver(1);
        x.deliver(0);
        x.alter(0, 6, 1);
        Check.due("not GOOD to a SLAVE", x.deliver(0), 0);
        Links.lies(x, "not GOOD to a SLAVE", 1, Packets.control(Packets.RJ, 1));
        x.alter(1, 5, 1);
        Check.due("not GOOD to a MASTER", x.deliver(1), 0);
        Links.lies(x, "not GOOD to a MASTER", 0, Packets.control(Packets.RJ, 1));
    }

    /** Site 0 has DATA 2, 3 and 4 out and one more waiting; controls for it lie on the wire, none for site 1. */
    private static CountedLink threeOut() {
        CountedLink x = Links.offering(100);
        x.deliver(0);
        x.deliver(1);
        x.deliver(1);
        x.lose(0);
        for (int i = 0; i < 3; i++) {
            x.deliver(0);
        }
        Links.lies(x, "three out", 0);
        int[][] wanted = {Packets.control(Packets.RR, 2), Packets.control(Packets.RR, 3),
            Packets.control(Packets.RR, 4)};
        Links.lies(x, "three out", 1, wanted);
        Links.told(x, "three out", 0, 1, 0, 2, 3, 1, 1);
        return x;
    }

    private static int[] part(int number) {
        int from = (number - 2) * 30;
        int[] bytes = new int[Math.min(30, 100 - from)];
        for (int i = 0; i < bytes.length; i++) {
            bytes[i] = Links.byteAt(from + i);
        }
        return Packets.data(number, 1, Packets.part(bytes));
    }

    private static void acknowledgements() {
        for (int y = 0; y < 8; y++) {
            CountedLink x = threeOut();
            Packets.forge(x, 1, Packets.control(Packets.RR, y));
            x.deliver(1);
            boolean isOut = y >= 2 && y <= 4;
            Links.told(x, "RR " + y, 0, 1, 0, 2, isOut ? 5 - y : 3, isOut ? 0 : 1, 1);
            if (isOut) {
                Links.lies(x, "RR " + y, 0, part(5));
            } else {
                Links.lies(x, "RR " + y, 0);
            }
        }
    }

    private static void askedForAgain() {
        CountedLink x = threeOut();
        Packets.forge(x, 1, Packets.control(Packets.RJ, 2));
        x.deliver(1);
        Links.lies(x, "RJ 2", 0, part(3), part(4), part(5));
        Links.told(x, "RJ 2", 0, 1, 0, 2, 3, 0, 1);
        x = threeOut();
        Packets.forge(x, 1, Packets.control(Packets.RJ, 4));
        x.deliver(1);
        Links.lies(x, "RJ 4", 0, part(5));
        Packets.forge(x, 1, Packets.control(Packets.RJ, 5));
        x.deliver(1);
        Links.lies(x, "RJ 5", 0, part(5));
        Links.told(x, "RJ 5", 0, 1, 0, 2, 0, 0, 1);
    }

    private static void askedForAgainWithoutAnyAcknowledged() {
        for (int y : new int[] {0, 1, 5, 6, 7}) {
            CountedLink x = threeOut();
            Packets.forge(x, 1, Packets.control(Packets.RJ, y));
            x.deliver(1);
            Links.lies(x, "RJ " + y, 0, part(2), part(3), part(4));
            Links.told(x, "RJ " + y, 0, 1, 0, 2, 3, 1, 1);
        }
    }

    private static void sentAgainWithWhatWasAcceptedLast() {
        CountedLink x = Links.offering(40);
        x.deliver(0);
        x.lose(1);
        Packets.forge(x, 1, Packets.data(1, 0, 'Y'));
        x.deliver(1);
        Links.told(x, "S is not acknowledged", 0, 1, 0, 2, 3, 0, 1);
        Links.loseAll(x, 0);
        x.tick();
        x.tick();
        x.tick();
        Check.due("all again", x.tick(), 4);
        Check.due("S again", Packets.on(x, 0, 0), Packets.data(1, 1, Packets.offer(0, 40)));
    }

    private static void dataOutOfOrder() {
        for (int number = 0; number < 8; number++) {
            CountedLink x = Links.offering(5);
            Packets.forge(x, 0, Packets.data(number, 0, Packets.offer(0, 5)));
            Check.due("DATA " + number, x.deliver(0), 1);
            int[] answer = Packets.control(Packets.RR, number == 1 ? 1 : 0);
            Check.due("answer to DATA " + number, Packets.on(x, 1, 0), answer);
            Check.due("sent for DATA " + number, x.waiting(1), number == 1 ? 2 : 1);
        }
        CountedLink x = Links.offering(5);
        x.deliver(0);
        Links.hears(x, 0, 1, 1, 'H');
        Links.lies(x, "DATA 1 twice", 1, Packets.control(Packets.RR, 1));
        Links.told(x, "its y is taken all the same", 1, 0, 0, 3, 0, 0, 0);
    }

    private static void numbersComeRound() {
        CountedLink x = new CountedLink();
        for (int i = 0; i < 10; i++) {
            x.queue(0);
        }
        x.call(0);
        x.deliver(0);
        x.deliver(1);
        for (int i = 1; i <= 10; i++) {
            int acknowledged = 2 * (i - 1) % 8;
            int[] offer = Packets.data(i % 8, acknowledged, Packets.offer(i - 1, 0));
            Check.due("offer " + i, Packets.headOn(x, 0, 0), Packets.head(offer));
            while (x.waiting(0) > 0) {
                x.deliver(0);
            }
            Check.due("RR " + i, Packets.on(x, 1, 0), Packets.control(Packets.RR, i % 8));
            while (x.waiting(1) > 0) {
                x.deliver(1);
            }
            Check.due("left", x.told(0, 0), 10 - i);
            // The RRs for Y and C stand before the next S.
            x.deliver(0);
            x.deliver(0);
        }
        Check.due("executed", x.told(1, 1), 10);
    }
}
