/** Promises 5 to 7 and 10 to 12: the boundary cases of wires and packets. */
public final class BoundaryLineTest {
    public static void main(String[] args) {
        deliver();
        lose();
        alterPlaces();
        alterMasks();
        waiting();
        look();
        twelvePackets();
        aThirteenthIsLost();
        controlsWithoutRoom();
        controlsThatAreGood();
        lengthsOfMessages();
        bytesBehindTheMessage();
        sumNotAbove();
        checkModulo();
        settleArguments();
        settleAtMostN();
        settleByTurns();
        settleOneAlone();
        Check.end();
    }

    private static void deliver() {
        Check.sentence("NONE when there is none, or no such site.");
        CountedLink x = new CountedLink();
        Check.due("none from 0", x.deliver(0), -1);
        Check.due("none from 1", x.deliver(1), -1);
        x.call(0);
        for (int from : Links.NO_SITES) {
            Check.due("deliver(" + from + ")", x.deliver(from), -1);
        }
        Check.due("it lies there still", x.waiting(0), 1);
        Check.due("none from 1", x.deliver(1), -1);
        Check.due("one from 0", x.deliver(0), 1);
        Check.due("none more from 0", x.deliver(0), -1);
        x.alter(1, 0, 1);
        Check.due("not GOOD from 1", x.deliver(1), 0);
        Check.due("none more from 1", x.deliver(1), -1);
    }

    private static void lose() {
        Check.sentence("It is lost. False when there is none.");
        for (int site = 0; site < 2; site++) {
            CountedLink x = new CountedLink();
            Check.due("none", x.lose(site), false);
            x.call(site);
            for (int from : Links.NO_SITES) {
                Check.due("lose(" + from + ")", x.lose(from), false);
            }
            Check.due("none from the other", x.lose(1 - site), false);
            Check.due("it lies there still", x.waiting(site), 1);
            Check.due("one", x.lose(site), true);
            Check.due("none more", x.lose(site), false);
            Check.due("waiting", x.waiting(site), 0);
            Links.told(x, "the other one heard nothing", 1 - site, 0, 0, 0, 0, 0, 0);
        }
    }

    private static void alterPlaces() {
        Check.sentence("False when there is none, or no such byte, or mask is not 1 .. 255.");
        CountedLink x = new CountedLink();
        Check.due("none", x.alter(0, 0, 1), false);
        x.call(0);
        dueLastByte(x, "control", 5);
        for (int from : Links.NO_SITES) {
            Check.due("alter(" + from + ", 0, 1)", x.alter(from, 0, 1), false);
        }
        Check.due("none from 1", x.alter(1, 0, 1), false);
        x.deliver(0);
        x.deliver(1);
        dueLastByte(x, "DATA", 37);
    }

    /** Of the first packet from 0, which is as it was when the masks came twice. */
    private static void dueLastByte(CountedLink x, String what, int last) {
        for (int at : new int[] {-1, last + 1, Integer.MIN_VALUE, Integer.MAX_VALUE}) {
            Check.due(what + " at " + at, x.alter(0, at, 1), false);
        }
        for (int at : new int[] {0, last}) {
            int before = x.look(0, 0, at);
            Check.due(what + " at " + at, x.alter(0, at, 9), true);
            Check.due(what + ", byte " + at, x.look(0, 0, at), before ^ 9);
            x.alter(0, at, 9);
            Check.due(what + ", byte " + at + " then", x.look(0, 0, at), before);
        }
    }

    private static void alterMasks() {
        Check.sentence("False when there is none, or no such byte, or mask is not 1 .. 255.");
        CountedLink x = new CountedLink();
        x.call(0);
        for (int mask : new int[] {0, -1, 256, -255, Integer.MIN_VALUE, Integer.MAX_VALUE}) {
            Check.due("alter by " + mask, x.alter(0, 4, mask), false);
            Check.due("the byte behind " + mask, x.look(0, 0, 4), 56);
        }
        for (int mask : new int[] {1, 255}) {
            Check.due("alter by " + mask, x.alter(0, 4, mask), true);
            Check.due("the byte behind " + mask, x.look(0, 0, 4), 56 ^ mask);
            x.alter(0, 4, mask);
        }
        // The first packet alone is altered.
        for (int i = 0; i < 4; i++) {
            x.tick();
        }
        x.alter(0, 4, 255);
        Check.due("the first one", x.look(0, 0, 4), 56 ^ 255);
        Check.due("the second one", x.look(0, 1, 4), 56);
    }

    private static void waiting() {
        Check.sentence("How many packets lie on the wire from a site; NONE when there is none such.");
        CountedLink x = fileOnItsWay();
        for (int from : Links.NO_SITES) {
            Check.due("waiting(" + from + ")", x.waiting(from), -1);
        }
        Check.due("waiting(0)", x.waiting(0), 4);
        Check.due("waiting(1)", x.waiting(1), 0);
        x.crash(0);
        x.call(0);
        Check.due("waiting(0) behind call", x.waiting(0), 1);
    }

    private static void look() {
        Check.sentence("Byte i of packet k there; NONE when there is none.");
        CountedLink x = fileOnItsWay();
        for (int k : new int[] {-1, 4, 12, Integer.MIN_VALUE, Integer.MAX_VALUE}) {
            Check.due("look(0, " + k + ", 0)", x.look(0, k, 0), -1);
        }
        for (int k = 0; k < 4; k++) {
            int last = k == 0 ? 5 : 37;
            Check.due("first byte of " + k, x.look(0, k, 0), 16);
            Check.due("there is a last byte of " + k, x.look(0, k, last) != -1, true);
            for (int i : new int[] {-1, last + 1, Integer.MIN_VALUE, Integer.MAX_VALUE}) {
                Check.due("look(0, " + k + ", " + i + ")", x.look(0, k, i), -1);
            }
        }
        Check.due("X of RR 1", x.look(0, 0, 5), Packets.control(Packets.RR, 1)[5]);
        Check.due("last byte of the last D", x.look(0, 3, 36), Links.byteAt(88));
        Check.due("its last byte but one", x.look(0, 3, 37), Links.byteAt(89));
        Check.due("look(1, 0, 0)", x.look(1, 0, 0), -1);
        for (int from : Links.NO_SITES) {
            Check.due("look(" + from + ", 0, 0)", x.look(from, 0, 0), -1);
        }
    }

    /** On the wire from 0: RR and three D; one D more waits. The wire from 1 is empty. */
    private static CountedLink fileOnItsWay() {
        CountedLink x = Links.offering(100);
        x.deliver(0);
        x.deliver(1);
        x.deliver(1);
        return x;
    }

    /** Four ticks, at the last of which this many packets are sent again. */
    private static void againBy(CountedLink x, int wanted) {
        Links.ticks(x, "sent again", 3, 0);
        Check.due("sent again", x.tick(), wanted);
    }

    private static void twelvePackets() {
        Check.sentence("at most 12; one for which there is no room is lost");
        CountedLink x = fileOnItsWay();
        x.crash(1);
        x.lose(0);
        for (int i = 2; i <= 4; i++) {
            againBy(x, 3);
            Check.due("waiting", x.waiting(0), 3 * i);
        }
        // 12 lie there, all of which had room.
        for (int k = 0; k < 12; k++) {
            Check.due("C of packet " + k, x.look(0, k, 4), 128 + 8 * (2 + k % 3) + 1);
        }
        Check.due("packet 12", x.look(0, 12, 0), -1);
        againBy(x, 3);
        Check.due("waiting", x.waiting(0), 12);
    }

    private static void aThirteenthIsLost() {
        Check.sentence("at most 12; one for which there is no room is lost");
        CountedLink x = fileOnItsWay();
        x.crash(1);
        againBy(x, 3);
        againBy(x, 3);
        Check.due("waiting", x.waiting(0), 10);
        againBy(x, 3);
        // RR and three times three D lie there, of the next three the first two.
        Check.due("waiting", x.waiting(0), 12);
        Check.due("the first one", x.look(0, 0, 4), 8 * Packets.RR + 1);
        Check.due("the eleventh one", x.look(0, 10, 4), 128 + 8 * 2 + 1);
        Check.due("the twelfth one", x.look(0, 11, 4), 128 + 8 * 3 + 1);
        x.lose(0);
        Check.due("waiting", x.waiting(0), 11);
        againBy(x, 3);
        Check.due("one more has room", x.waiting(0), 12);
        Check.due("the eleventh one then", x.look(0, 10, 4), 128 + 8 * 3 + 1);
        Check.due("the twelfth one then", x.look(0, 11, 4), 128 + 8 * 2 + 1);
    }

    private static void controlsWithoutRoom() {
        Check.sentence("at most 12; one for which there is no room is lost");
        CountedLink x = fileOnItsWay();
        x.deliver(0);
        // What comes damaged is answered by RJ each time.
        for (int i = 0; i < 12; i++) {
            if (x.waiting(0) == 1) {
                againBy(x, 3);
            }
            x.alter(0, 0, 1);
            Check.due("damaged", x.deliver(0), 0);
            Check.due("waiting", x.waiting(1), i + 1);
        }
        againBy(x, 3);
        Links.loseUntil(x, 0, 128 + 8 * 2 + 1);
        Check.due("D comes", x.deliver(0), 1);
        Check.due("RR has no room", x.waiting(1), 12);
        for (int k = 0; k < 12; k++) {
            Check.due("C of packet " + k, x.look(1, k, 4), 8 * Packets.RJ + 1);
        }
        x.lose(1);
        Check.due("the next D comes", x.deliver(0), 1);
        Check.due("waiting", x.waiting(1), 12);
        Check.due("RR for it", x.look(1, 11, 4), 8 * Packets.RR + 3);
    }

    private static void controlsThatAreGood() {
        Check.sentence("CONTROLS: x one of these five");
        for (int x = 0; x < 8; x++) {
            boolean known = x == 1 || x == 2 || x == 4 || x == 5 || x == 7;
            for (int y : new int[] {0, 7}) {
                Check.due("control " + x + " " + y, comesToIdle(Packets.control(x, y)), known ? 1 : 0);
            }
        }
        for (int type = 1; type < 4; type++) {
            Check.due("INIT of type " + type, comesToIdle(Packets.controlOf(64 * type + 56)), 0);
        }
    }

    private static int comesToIdle(int[] control) {
        CountedLink x = new CountedLink();
        x.call(0);
        Packets.forge(x, 0, control);
        return x.deliver(0);
    }

    private static void lengthsOfMessages() {
        Check.sentence("the first byte n (1 .. 32 less 1) tells how many bytes of a MESSAGE follow; the others are 0.");
        for (int n : new int[] {0, 1, 2, 30, 31, 32, 33, 255}) {
            int[] data = new int[32];
            data[0] = n;
            boolean good = n >= 1 && n <= 31;
            Check.due("DATA of " + n, comesToSlave(data), good ? 1 : 0);
            for (int i = 1; i < 32 && i <= n; i++) {
                data[i] = 200 + i;
            }
            Check.due("DATA of " + n + " bytes that are not 0", comesToSlave(data), good ? 1 : 0);
        }
    }

    private static void bytesBehindTheMessage() {
        Check.sentence("the first byte n (1 .. 32 less 1) tells how many bytes of a MESSAGE follow; the others are 0.");
        for (int n : new int[] {1, 2, 30}) {
            for (int at : new int[] {n, n + 1, 31}) {
                int[] data = new int[32];
                data[at] = 1;
                data[0] = n;
                Check.due("DATA of " + n + " with a byte at " + at, comesToSlave(data), at <= n ? 1 : 0);
            }
        }
    }

    private static int comesToSlave(int[] data) {
        CountedLink x = Links.offering(1);
        Packets.forge(x, 0, Packets.dataOf(136, data));
        int good = x.deliver(0);
        int[] answer = Packets.control(good == 1 ? Packets.RR : Packets.RJ, good);
        Check.due("answer", x.look(1, 0, 4), answer[4]);
        return good;
    }

    /** Hands over a file up to its D, which must be the one told. */
    private static void duePart(int[] file) {
        CountedLink x = new CountedLink();
        for (int b : file) {
            x.put(b);
        }
        x.queue(0);
        x.call(0);
        x.settle(5);
        x.lose(0);
        Check.due("D", Packets.on(x, 0, 0), Packets.data(2, 1, Packets.part(file)));
        Check.due("D is GOOD", x.deliver(0), 1);
        Check.due("executed", x.told(1, 1), 1);
    }

    private static void sumNotAbove() {
        Check.sentence("if p is not above o, p becomes p ^ q");
        // Before the last byte p is 65408; with 127 it stays so.
        for (int last = 126; last <= 128; last++) {
            duePart(new int[] {247, 0, 0, 0, 0, 0, 0, 0, last});
        }
        // Here it is 65280, and stays so with 255.
        duePart(new int[] {246, 0, 0, 0, 0, 0, 0, 0, 254});
        duePart(new int[] {246, 0, 0, 0, 0, 0, 0, 0, 255});
    }

    private static void checkModulo() {
        Check.sentence("H and L are the high and the low byte of 43690 - C (CONTROLS), 43690 - (sum ^ C) (DATA), modulo"
                + " 65536");
        for (int wanted : new int[] {0, 1, 255, 256, 65535, 65534}) {
            duePart(fileOfCheck(wanted));
        }
    }

    /** A file of three bytes whose D, as DATA 2 behind 1, has these two bytes H and L. */
    private static int[] fileOfCheck(int check) {
        for (int i = 0; i < 1 << 24; i++) {
            int[] file = {i >> 16, i >> 8 & 255, i & 255};
            int[] packet = Packets.data(2, 1, Packets.part(file));
            if (packet[2] == check % 256 && packet[3] == check / 256) {
                return file;
            }
        }
        Check.due("a file of check " + check, false, true);
        return new int[3];
    }

    private static void settleArguments() {
        Check.sentence("NONE when n is not 1 .. 200.");
        CountedLink x = new CountedLink();
        x.call(0);
        for (int n : new int[] {0, -1, 201, Integer.MIN_VALUE, Integer.MAX_VALUE}) {
            Check.due("settle(" + n + ")", x.settle(n), -1);
            Check.due("it lies there still", x.waiting(0), 1);
        }
        Check.due("settle(1)", x.settle(1), 1);
        Check.due("settle(200)", x.settle(200), 6);
        Check.due("settle(1) of none", x.settle(1), 0);
    }

    private static void settleAtMostN() {
        Check.sentence("as long as there are any, n at most: how many.");
        CountedLink x = new CountedLink();
        for (int i = 0; i < 30; i++) {
            x.queue(0);
            x.queue(1);
        }
        x.call(0);
        Check.due("settle(200)", x.settle(200), 200);
        Check.due("some lie there", x.waiting(0) + x.waiting(1) > 0, true);
        Check.due("there is an end", x.settle(200) < 200, true);
        Check.due("nothing lies there", x.waiting(0) + x.waiting(1), 0);
        Links.told(x, "the end", 0, 0, 30, 0, 0, 0, 1);
        Links.told(x, "the end", 1, 0, 30, 0, 0, 0, 0);

        CountedLink y = Links.offering(0);
        int all = y.settle(200);
        y = Links.offering(0);
        Check.due("all but one", y.settle(all - 1), all - 1);
        Check.due("one lies there", y.waiting(0) + y.waiting(1), 1);
        Check.due("the last one", y.settle(1), 1);
        y = Links.offering(0);
        Check.due("as many as there are", y.settle(all), all);
        Check.due("none lies there", y.waiting(0) + y.waiting(1), 0);
    }

    private static void wires(CountedLink x, String when, int from0, int from1) {
        Check.due(when + ", wires", new int[] {x.waiting(0), x.waiting(1)}, new int[] {from0, from1});
    }

    private static void settleByTurns() {
        Check.sentence("beginning with 0 each time (one alone when the other is empty)");
        CountedLink x = fileOnItsWay();
        x.lose(0);
        Check.due("settle(3)", x.settle(3), 3);
        // D; RR, for which the fourth D is sent; D.
        wires(x, "0, then 1 though 0 has more, then 0", 2, 1);
        x = fileOnItsWay();
        x.lose(0);
        x.settle(1);
        wires(x, "D", 2, 1);
        x.settle(1);
        wires(x, "a settle more begins with 0", 1, 2);
        Check.due("settle(2)", x.settle(2), 2);
        // D from 0, and RR from 1, for which the fourth D is sent.
        wires(x, "0, then 1", 1, 2);
        Check.due("settle(3)", x.settle(3), 3);
        // D, for which RR and C are sent, RR; 0 has none: RR.
        wires(x, "0, then 1, then 1 alone", 0, 2);
    }

    private static void settleOneAlone() {
        Check.sentence("beginning with 0 each time (one alone when the other is empty)");
        CountedLink x = fileOnItsWay();
        x.crash(1);
        Check.due("0 alone", x.settle(3), 3);
        wires(x, "0 alone", 1, 0);
        x = new CountedLink();
        x.call(1);
        for (int i = 0; i < 4; i++) {
            x.tick();
        }
        wires(x, "INIT twice", 0, 2);
        Check.due("1 alone", x.settle(1), 1);
        wires(x, "1 alone", 1, 1);
        Check.due("by turns", x.settle(1), 1);
        wires(x, "0 first", 0, 2);
    }
}
