/** Promises 4 to 7, 11 and 12: packets on the line. */
public final class LineTest {
    public static void main(String[] args) {
        callSendsInit();
        callClearsTheLine();
        callCountsModuloEight();
        knownBytes();
        noSuchWires();
        loseTakesTheFirst();
        alterEdges();
        anyAlteredByteIsNotGood();
        controlsThatAreGood();
        dataThatAreGood();
        lengthAndKindBelongTogether();
        fullWire();
        Check.end();
    }

    private static void callSendsInit() {
        for (int site = 0; site < 2; site++) {
            CountedLink x = new CountedLink();
            Check.due("call", x.call(site), true);
            Links.told(x, "called", site, 0, 0, 1, 0, 0, 1);
            Links.lies(x, "called", site, Packets.control(Packets.INIT, 0));
            Check.due("call again", x.call(site), false);
            Links.lies(x, "called again", site, Packets.control(Packets.INIT, 0));
            Check.due("calls begun", x.told(site, 5), 1);
        }
        CountedLink open = Links.offering(5);
        Check.due("call of a master", open.call(0), false);
        Check.due("call of a slave", open.call(1), false);
        Check.due("line stays", open.waiting(0), 1);
    }

    private static void callClearsTheLine() {
        CountedLink x = Links.offering(5);
        x.deliver(0);
        x.crash(0);
        Check.due("before", x.waiting(1), 2);
        Check.due("call", x.call(0), true);
        Links.lies(x, "called", 0, Packets.control(Packets.INIT, 1));
        Links.lies(x, "called", 1);
    }

    private static void callCountsModuloEight() {
        CountedLink x = new CountedLink();
        for (int i = 0; i < 20; i++) {
            Check.due("call " + i, x.call(1), true);
            Links.lies(x, "call " + i, 1, Packets.control(Packets.INIT, i % 8));
            Check.due("calls begun", x.told(1, 5), i + 1);
            x.crash(1);
        }
    }

    private static void knownBytes() {
        CountedLink x = new CountedLink();
        x.call(0);
        Check.due("INIT 0", Packets.on(x, 0, 0), new int[] {16, 9, 114, 170, 56, 233});
        x = Links.offering(65);
        int[] wanted = new int[38];
        System.arraycopy(new int[] {16, 1, 244, 252, 136, 129, 3, 83, 0, 65}, 0, wanted, 0, 10);
        Check.due("S 0 65", Packets.on(x, 0, 0), wanted);
    }

    private static void noSuchWires() {
        CountedLink x = Links.offering(5);
        for (int from : Links.NO_SITES) {
            Check.due("call", x.call(from), false);
            Check.due("deliver", x.deliver(from), -1);
            Check.due("lose", x.lose(from), false);
            Check.due("alter", x.alter(from, 0, 1), false);
            Check.due("waiting", x.waiting(from), -1);
            Check.due("look", x.look(from, 0, 0), -1);
        }
        Check.due("deliver of an empty wire", x.deliver(1), -1);
        Check.due("lose of an empty wire", x.lose(1), false);
        Check.due("alter of an empty wire", x.alter(1, 0, 1), false);
        Check.due("waiting of an empty wire", x.waiting(1), 0);
        Check.due("look of an empty wire", x.look(1, 0, 0), -1);
        Check.due("look(0, -1, 0)", x.look(0, -1, 0), -1);
        Check.due("look(0, 1, 0)", x.look(0, 1, 0), -1);
        Check.due("look(0, 0, -1)", x.look(0, 0, -1), -1);
        Check.due("look(0, 0, 37)", x.look(0, 0, 37), 0);
        Check.due("look(0, 0, 38)", x.look(0, 0, 38), -1);
        Check.due("the wire stays", x.waiting(0), 1);
    }

    private static void loseTakesTheFirst() {
        CountedLink x = Links.offering(5);
        x.deliver(0);
        Links.lies(x, "before", 1, Packets.control(Packets.RR, 1), Packets.data(1, 1, 'Y'));
        Check.due("lose", x.lose(1), true);
        Links.lies(x, "lost", 1, Packets.data(1, 1, 'Y'));
        Check.due("lose", x.lose(1), true);
        Links.lies(x, "lost", 1);
        Check.due("lose", x.lose(1), false);
    }

    private static void alterEdges() {
        CountedLink x = Links.offering(5);
        x.deliver(0);
        for (int at : new int[] {-1, 6, 7, 38, Integer.MIN_VALUE, Integer.MAX_VALUE}) {
            Check.due("alter at " + at, x.alter(1, at, 1), false);
        }
        for (int mask : new int[] {0, -1, 256, 257, Integer.MIN_VALUE, Integer.MAX_VALUE}) {
            Check.due("alter by " + mask, x.alter(1, 0, mask), false);
        }
        Check.due("nothing altered", Packets.on(x, 1, 0), Packets.control(Packets.RR, 1));
        Check.due("alter by 255", x.alter(1, 5, 255), true);
        Check.due("altered", x.look(1, 0, 5), Packets.control(Packets.RR, 1)[5] ^ 255);
        Check.due("the one behind stays", Packets.on(x, 1, 1), Packets.data(1, 1, 'Y'));
        Check.due("alter back", x.alter(1, 5, 255), true);
        Check.due("deliver", x.deliver(1), 1);
        Check.due("alter at 37", x.alter(1, 37, 1), true);
        Check.due("alter at 38", x.alter(1, 38, 1), false);
        Check.due("altered", x.look(1, 0, 37), 1);
    }

    private static void anyAlteredByteIsNotGood() {
        for (int bit = 1; bit < 256; bit *= 2) {
            for (int at = 0; at < 38; at++) {
                CountedLink x = Links.offering(20);
                x.alter(0, at, bit);
                Check.due("DATA altered at " + at, x.deliver(0), 0);
                Links.lies(x, "DATA altered at " + at, 1, Packets.control(Packets.RJ, 0));
            }
            for (int at = 0; at < 6; at++) {
                CountedLink x = new CountedLink();
                x.call(0);
                x.alter(0, at, bit);
                Check.due("INIT altered at " + at, x.deliver(0), 0);
                Links.lies(x, "INIT altered at " + at, 1);
                Links.told(x, "INIT altered at " + at, 1, 0, 0, 0, 0, 0, 0);
            }
        }
    }

    private static void controlsThatAreGood() {
        for (int c = 0; c < 256; c++) {
            CountedLink x = new CountedLink();
            x.call(0);
            Packets.forge(x, 0, Packets.controlOf(c));
            int kind = c / 8;
            boolean good = kind == 1 || kind == 2 || kind == 4 || kind == 5 || kind == 7;
            Check.due("control " + c, x.deliver(0), good ? 1 : 0);
        }
    }

    private static void dataThatAreGood() {
        for (int c = 0; c < 256; c++) {
            CountedLink x = Links.offering(20);
            int[] data = new int[32];
            data[0] = 1;
            Packets.forge(x, 0, Packets.dataOf(c, data));
            Check.due("DATA " + c, x.deliver(0), c / 64 == 2 ? 1 : 0);
        }
        for (int n = 0; n < 256; n++) {
            for (int last = 0; last < 32; last++) {
                CountedLink x = Links.offering(20);
                int[] data = new int[32];
                data[last] = 255;
                data[0] = n;
                Packets.forge(x, 0, Packets.dataOf(136, data));
                boolean good = n >= 1 && n <= 31 && last <= n;
                Check.due("DATA of " + n + " with a byte at " + last, x.deliver(0), good ? 1 : 0);
            }
        }
    }

    private static void lengthAndKindBelongTogether() {
        CountedLink x = Links.offering(20);
        int[] longControl = new int[38];
        System.arraycopy(Packets.control(Packets.CLOSE, 0), 0, longControl, 0, 6);
        Packets.forge(x, 0, longControl);
        Check.due("a control with data", x.deliver(0), 0);
        Check.due("still open", x.told(1, 2), 3);

        x = new CountedLink();
        x.call(0);
        int[] shortData = java.util.Arrays.copyOf(Packets.data(1, 0, 'H'), 6);
        Packets.forge(x, 0, shortData);
        Check.due("DATA without data", x.deliver(0), 0);
    }

    private static void fullWire() {
        CountedLink x = Links.offering(100);
        x.deliver(0);
        x.deliver(1);
        x.deliver(1);
        Links.lies(x, "the file", 0, Packets.control(Packets.RR, 1), part(0, 2), part(30, 3), part(60, 4));
        for (int round = 1; round <= 3; round++) {
            Links.ticks(x, "round " + round, 3, 0);
            // Site 1's Y is out as well.
            Check.due("sent again in round " + round, x.tick(), 4);
            Check.due("waiting in round " + round, x.waiting(0), Math.min(12, 4 + 3 * round));
        }
        Check.due("the last one that had room", Packets.on(x, 0, 11), part(30, 3));
        x.lose(0);
        Check.due("one less", x.waiting(0), 11);
    }

    private static int[] part(int from, int number) {
        int[] bytes = new int[30];
        for (int i = 0; i < 30; i++) {
            bytes[i] = Links.byteAt(from + i);
        }
        return Packets.data(number, 1, Packets.part(bytes));
    }
}
