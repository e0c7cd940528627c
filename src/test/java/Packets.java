/** Packets as the document tells them, written apart from the program. */
final class Packets {
    static final int CLOSE = 1;
    static final int RJ = 2;
    static final int RR = 4;
    static final int ANSWER = 5;
    static final int INIT = 7;

    private Packets() {
    }

    static int[] control(int x, int y) {
        return controlOf(8 * x + y);
    }

    /** The type stands in c too: for controls that are not GOOD for it alone. */
    static int[] controlOf(int c) {
        int check = Math.floorMod(43690 - c, 65536);
        return new int[] {16, 9, check % 256, check / 256, c, 9 ^ check % 256 ^ check / 256 ^ c};
    }

    static int[] data(int x, int y, int... message) {
        int[] data = new int[32];
        data[0] = message.length;
        System.arraycopy(message, 0, data, 1, message.length);
        return dataOf(128 + 8 * x + y, data);
    }

    /** With sums that are right, whatever the 32 bytes are. */
    static int[] dataOf(int c, int[] data) {
        int check = Math.floorMod(43690 - (sum(data) ^ c), 65536);
        int[] packet = new int[38];
        packet[0] = 16;
        packet[1] = 1;
        packet[2] = check % 256;
        packet[3] = check / 256;
        packet[4] = c;
        packet[5] = 1 ^ packet[2] ^ packet[3] ^ c;
        System.arraycopy(data, 0, packet, 6, 32);
        return packet;
    }

    static int[] text(String letters) {
        return letters.chars().toArray();
    }

    static int[] offer(int number, int length) {
        return new int[] {'S', number, length};
    }

    /** A message D with bytes. */
    static int[] part(int... bytes) {
        int[] message = new int[bytes.length + 1];
        message[0] = 'D';
        System.arraycopy(bytes, 0, message, 1, bytes.length);
        return message;
    }

    /** Packet k on a wire. */
    static int[] on(CountedLink x, int from, int k) {
        int length = 0;
        while (x.look(from, k, length) != SpoolLink.NONE) {
            length++;
        }
        int[] packet = new int[length];
        for (int i = 0; i < length; i++) {
            packet[i] = x.look(from, k, i);
        }
        return packet;
    }

    /** The head of packet k on a wire, the sum of all its data among it. */
    static int[] headOn(CountedLink x, int from, int k) {
        int[] head = new int[6];
        for (int i = 0; i < 6; i++) {
            head[i] = x.look(from, k, i);
        }
        return head;
    }

    static int[] head(int[] packet) {
        return java.util.Arrays.copyOf(packet, 6);
    }

    /** Alters the first packet on a wire, which must have this length and be as it was sent, to the one wanted. */
    static void forge(CountedLink x, int from, int[] wanted) {
        Check.due("behind the packet to forge", x.look(from, 0, wanted.length), SpoolLink.NONE);
        // Behind the longer one of the two messages both are 0.
        int end = wanted.length == 6 ? 6 : Math.max(7 + x.look(from, 0, 6), endOf(wanted));
        for (int i = 1; i < end; i++) {
            int mask = x.look(from, 0, i) ^ wanted[i];
            if (mask != 0) {
                Check.due("alter", x.alter(from, i, mask), true);
            }
        }
    }

    /** The place behind its last byte that is not 0. */
    private static int endOf(int[] packet) {
        int end = packet.length;
        while (end > 7 && packet[end - 1] == 0) {
            end--;
        }
        return end;
    }

    private static int sum(int[] data) {
        long p = 65535;
        long q = 0;
        for (int i = 0; i < data.length; i++) {
            long o = p;
            p = (p * 2 % 65536 + p / 32768 + data[i]) % 65536;
            q = (q + (p ^ (data.length - i))) % 65536;
            if (p <= o) {
                p = p ^ q;
            }
        }
        return (int) p;
    }
}
