/** Promise 10: settle. */
public final class SettleTest {
    public static void main(String[] args) {
        wrongArguments();
        howMany();
        beginsWith0();
        byTurns();
        oneAlone();
        Check.end();
    }

    private static void wrongArguments() {
        CountedLink x = new CountedLink();
        x.call(0);
        for (int n : new int[] {0, -1, 201, Integer.MIN_VALUE, Integer.MAX_VALUE}) {
            Check.due("settle(" + n + ")", x.settle(n), -1);
        }
        Check.due("nothing handed over", x.waiting(0), 1);
        Check.due("settle(1)", x.settle(1), 1);
        Check.due("settle(200)", new CountedLink().settle(200), 0);
    }

    private static void howMany() {
        // INIT, ANSWER, H, RR, H, RR, CLOSE.
        for (int n = 1; n <= 10; n++) {
            CountedLink x = new CountedLink();
            x.call(0);
            Check.due("settle(" + n + ")", x.settle(n), Math.min(n, 7));
            Check.due("the rest behind " + n, x.settle(200), Math.max(0, 7 - n));
        }
    }

    /** On the wire from 0: RR, D, D, D; one D more waits. */
    private static CountedLink sendingAFile() {
        CountedLink x = Links.offering(100);
        x.deliver(0);
        x.deliver(1);
        x.deliver(1);
        Check.due("on the wire", x.waiting(0), 4);
        return x;
    }

    private static void wires(CountedLink x, String when, int from0, int from1) {
        Check.due(when + ", wires", new int[] {x.waiting(0), x.waiting(1)}, new int[] {from0, from1});
    }

    private static void beginsWith0() {
        CountedLink x = sendingAFile();
        x.settle(1);
        wires(x, "RR", 3, 0);
        x.settle(1);
        wires(x, "first D", 2, 1);
        x.settle(1);
        wires(x, "second D", 1, 2);
        x.settle(1);
        wires(x, "third D", 0, 3);
        x.settle(1);
        wires(x, "RR, and the last D is sent", 1, 2);
    }

    private static void byTurns() {
        CountedLink x = sendingAFile();
        x.deliver(0);
        Check.due("settle", x.settle(2), 2);
        wires(x, "first D and its RR", 3, 0);
        Check.due("settle", x.settle(3), 3);
        wires(x, "D, RR, D", 1, 1);
    }

    private static void oneAlone() {
        CountedLink x = sendingAFile();
        x.settle(1);
        x.settle(1);
        x.settle(1);
        x.settle(1);
        wires(x, "RRs alone", 0, 3);
        Check.due("settle", x.settle(2), 2);
        // RR from 1, as 0 has none; then 0's turn again: the last D, for which RR and C are sent.
        wires(x, "RR and D", 0, 4);
        x = sendingAFile();
        x.crash(1);
        Check.due("all from 0", x.settle(200), 4);
        wires(x, "all from 0", 0, 0);
    }
}
