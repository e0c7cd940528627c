/** Promises 5 and 13 to 17: the messages, done one by one. */
public final class ConversationTest {
    public static void main(String[] args) {
        nothingToHandOver();
        oneFile();
        emptyFile();
        turn();
        alreadyExecuted();
        filesOfAllLengths();
        partsAtTheEdges();
        offersThatAreLeftOut();
        offerForgetsWhatWasTaken();
        refusalKeepsWhatWasTaken();
        numbersThatWereNeverQueued();
        messagesThatAreNotTold();
        masterDoesNotWait();
        masterWithAnEmptyQueue();
        masterAtTurn();
        sixteenWait();
        Check.end();
    }

    private static int[] rr(int y) {
        return Packets.control(Packets.RR, y);
    }

    private static void nothingToHandOver() {
        CountedLink x = new CountedLink();
        x.call(1);
        x.deliver(1);
        x.deliver(0);
        Links.lies(x, "H", 1, Packets.data(1, 0, 'H'));
        x.deliver(1);
        Links.lies(x, "H back", 0, rr(1), Packets.data(1, 1, 'H'));
        x.deliver(0);
        x.deliver(0);
        Links.lies(x, "CLOSE", 1, rr(1), Packets.control(Packets.CLOSE, 0));
        Links.told(x, "CLOSE", 1, 0, 0, 0, 0, 0, 1);
        x.deliver(1);
        Links.told(x, "before CLOSE", 0, 0, 0, 3, 0, 0, 0);
        x.deliver(1);
        Links.told(x, "behind CLOSE", 0, 0, 0, 0, 0, 0, 0);
    }

    private static void oneFile() {
        CountedLink x = Links.offering(2);
        Links.lies(x, "S", 0, Packets.data(1, 0, Packets.offer(0, 2)));
        x.deliver(0);
        Links.lies(x, "Y", 1, rr(1), Packets.data(1, 1, 'Y'));
        x.deliver(1);
        x.deliver(1);
        Links.lies(x, "D", 0, rr(1), Packets.data(2, 1, 'D', 7, 14));
        x.deliver(0);
        Check.due("not yet", x.told(1, 1), 0);
        x.deliver(0);
        Links.lies(x, "C", 1, rr(2), Packets.data(2, 2, 'C'));
        Check.due("executed", x.executed(1, 0), 0);
        Check.due("still queued", x.queued(0, 0), 0);
        x.deliver(1);
        x.deliver(1);
        Links.lies(x, "H", 0, rr(2), Packets.data(3, 2, 'H'));
        Check.due("left", x.told(0, 0), 0);
        Check.due("times", x.times(0, 0), 1);
    }

    private static void emptyFile() {
        CountedLink x = Links.offering(0);
        Links.lies(x, "S", 0, Packets.data(1, 0, Packets.offer(0, 0)));
        x.deliver(0);
        Links.lies(x, "Y and C", 1, rr(1), Packets.data(1, 1, 'Y'), Packets.data(2, 1, 'C'));
        Check.due("executed", x.executed(1, 0), 0);
        Check.due("its file", x.file(1, 0, 0), -1);
        x.settle(200);
        Links.told(x, "settled", 0, 0, 0, 0, 0, 0, 1);
        Links.told(x, "settled", 1, 0, 1, 0, 0, 0, 0);
    }

    private static void turn() {
        CountedLink x = new CountedLink();
        Links.addJob(x, 1, 1);
        x.call(0);
        x.deliver(0);
        x.deliver(1);
        x.deliver(0);
        Links.lies(x, "T and S", 1, rr(1), Packets.data(1, 1, 'T'), Packets.data(2, 1, Packets.offer(0, 1)));
        Links.told(x, "T", 1, 1, 0, 2, 2, 0, 0);
        x.deliver(1);
        x.deliver(1);
        Links.told(x, "T", 0, 0, 0, 3, 0, 0, 1);
        x.settle(200);
        Links.told(x, "settled", 0, 0, 1, 0, 0, 0, 1);
        Links.told(x, "settled", 1, 0, 0, 0, 0, 0, 0);
        Check.due("its file", x.file(0, 0, 0), 7);
    }

    private static void alreadyExecuted() {
        CountedLink x = Links.offering(0);
        x.deliver(0);
        x.crash(0);
        x.crash(1);
        x.call(0);
        x.deliver(0);
        x.deliver(1);
        x.deliver(0);
        Links.lies(x, "N", 1, rr(1), Packets.data(1, 1, 'N'));
        x.deliver(1);
        x.deliver(1);
        Links.lies(x, "H", 0, rr(1), Packets.data(2, 1, 'H'));
        Links.told(x, "N", 0, 0, 0, 2, 1, 0, 2);
        Check.due("once", x.told(1, 1), 1);
        Check.due("times", x.times(0, 0), 1);
    }

    private static void filesOfAllLengths() {
        for (int length = 0; length <= 100; length++) {
            CountedLink x = Links.offering(length);
            x.settle(200);
            Links.told(x, "length " + length, 0, 0, 0, 0, 0, 0, 1);
            for (int i = 0; i <= length; i++) {
                Check.due("file of " + length, x.file(1, 0, i), i < length ? Links.byteAt(i) : -1);
            }
        }
    }

    private static void partsAtTheEdges() {
        CountedLink x = Links.offering(5);
        Links.hears(x, 0, 1, 0, Packets.offer(0, 3));
        Links.hears(x, 0, 2, 1, 'D');
        Links.lies(x, "D without bytes", 1, rr(2));
        Links.hears(x, 0, 3, 1, 'D', 1, 2);
        Links.lies(x, "D with less", 1, rr(3));
        Links.hears(x, 0, 4, 1, 'D', 3, 4, 5);
        Links.lies(x, "D with more", 1, rr(4), Packets.data(2, 4, 'C'));
        Check.due("last byte", x.file(1, 0, 2), 3);
        Check.due("cut off", x.file(1, 0, 3), -1);
        Links.hears(x, 0, 5, 2, 'D', 6);
        Links.lies(x, "D behind the end", 1, rr(5));
        Links.told(x, "D behind the end", 1, 0, 1, 3, 0, 0, 0);
    }

    private static void offersThatAreLeftOut() {
        CountedLink x = Links.offering(5);
        Links.hears(x, 0, 1, 0, Packets.offer(0, 101));
        Links.lies(x, "S of 101", 1, rr(1));
        Links.hears(x, 0, 2, 0, 'D', 1, 2);
        Links.lies(x, "D behind it", 1, rr(2));
        Links.hears(x, 0, 3, 0, Packets.offer(9, 0));
        Links.hears(x, 0, 4, 2, Packets.offer(9, 255));
        Links.lies(x, "S of 255 for an executed one", 1, rr(4));
        Links.hears(x, 0, 5, 2, Packets.offer(0, 100));
        Links.lies(x, "S of 100", 1, rr(5), Packets.data(3, 5, 'Y'));
    }

    private static void offerForgetsWhatWasTaken() {
        CountedLink x = Links.offering(5);
        Links.hears(x, 0, 1, 0, Packets.offer(0, 3));
        Links.hears(x, 0, 2, 1, 'D', 1, 2);
        Links.hears(x, 0, 3, 1, Packets.offer(4, 2));
        Links.hears(x, 0, 4, 2, 'D', 8);
        Check.due("nothing whole yet", x.told(1, 1), 0);
        Links.hears(x, 0, 5, 2, 'D', 9);
        Check.due("number", x.executed(1, 0), 4);
        Check.due("byte 0", x.file(1, 0, 0), 8);
        Check.due("byte 1", x.file(1, 0, 1), 9);
        Check.due("end", x.file(1, 0, 2), -1);
    }

    private static void refusalKeepsWhatWasTaken() {
        CountedLink x = Links.offering(5);
        Links.hears(x, 0, 1, 0, Packets.offer(7, 0));
        Links.hears(x, 0, 2, 2, Packets.offer(0, 2));
        Links.hears(x, 0, 3, 3, 'D', 1);
        Links.hears(x, 0, 4, 3, Packets.offer(7, 0));
        Links.lies(x, "S of an executed one", 1, rr(4), Packets.data(4, 4, 'N'));
        Links.hears(x, 0, 5, 4, 'D', 2);
        Check.due("executed", x.executed(1, 1), 0);
        Check.due("byte 0", x.file(1, 1, 0), 1);
        Check.due("byte 1", x.file(1, 1, 1), 2);
    }

    private static void numbersThatWereNeverQueued() {
        CountedLink x = Links.offering(5);
        Links.hears(x, 0, 1, 0, Packets.offer(255, 0));
        Check.due("executed", x.executed(1, 0), 255);
        Check.due("no such job", x.times(0, 255), -1);
        Links.hears(x, 0, 2, 2, Packets.offer(1, 0));
        Check.due("no such job", x.times(0, 1), -1);
        x.queue(0);
        Check.due("now there is one", x.times(0, 1), 1);
    }

    private static void messagesThatAreNotTold() {
        int[][] toSlave = {{'N'}, {'Y'}, {'C'}, {'T'}, {'X'}, {0}, {'S'}, {'S', 1}, {'S', 1, 2, 3}, {'H', 0}, {'h'},
            {'D'}, {'D', 1}, new int[31]};
        for (int[] message : toSlave) {
            CountedLink x = Links.offering(5);
            Links.addJob(x, 1, 2);
            Links.hears(x, 0, 1, 0, message);
            Links.lies(x, "left out by a SLAVE", 1, rr(1));
            Links.told(x, "left out by a SLAVE", 1, 1, 0, 3, 0, 0, 0);
        }
        int[][] toMaster = {{'S', 0, 0}, {'D', 1}, {'D'}, {'X'}, {255}, {'N', 0}, {'Y', 1}, {'C', 'C'}, {'H', 'H'},
            {'T', 0}, new int[31]};
        for (int[] message : toMaster) {
            CountedLink x = Links.offering(5);
            x.deliver(0);
            Links.hears(x, 1, 1, 1, message);
            Links.lies(x, "left out by a MASTER", 0, rr(1));
            Links.told(x, "left out by a MASTER", 0, 1, 0, 2, 0, 0, 1);
        }
    }

    /** Site 0, MASTER with two jobs, has offered the first; its S is not acknowledged; site 1's DATA are out. */
    private static CountedLink masterOfTwo() {
        CountedLink x = new CountedLink();
        Links.addJob(x, 0, 1);
        Links.addJob(x, 0, 2);
        x.call(0);
        x.deliver(0);
        x.deliver(1);
        x.deliver(0);
        return x;
    }

    private static void masterDoesNotWait() {
        for (int letter : new int[] {'N', 'C'}) {
            CountedLink x = masterOfTwo();
            Links.hears(x, 1, 1, 1, letter);
            Links.lies(x, "N or C at once", 0, rr(1), Packets.data(2, 1, Packets.offer(1, 2)));
            Check.due("the first job left", x.queued(0, 0), 1);
            Links.hears(x, 1, 2, 2, letter);
            Links.lies(x, "and again", 0, rr(2), Packets.data(3, 2, 'H'));
            Check.due("the second job left", x.told(0, 0), 0);
        }
        CountedLink x = masterOfTwo();
        Links.hears(x, 1, 1, 1, 'Y');
        Links.hears(x, 1, 2, 2, 'Y');
        Links.lies(x, "Y again", 0, rr(2), Packets.data(3, 2, 'D', 7));
    }

    private static void masterWithAnEmptyQueue() {
        for (int letter : new int[] {'N', 'C', 'Y'}) {
            CountedLink x = masterOfTwo();
            Links.hears(x, 1, 1, 1, 'N');
            Links.hears(x, 1, 2, 2, 'N');
            Links.hears(x, 1, 3, 3, letter);
            Links.lies(x, "for an empty queue", 0, rr(3));
            Links.told(x, "for an empty queue", 0, 0, 0, 2, 0, 0, 1);
        }
    }

    private static void masterAtTurn() {
        CountedLink x = masterOfTwo();
        Links.hears(x, 1, 1, 1, 'T');
        Links.told(x, "T", 0, 2, 0, 3, 0, 0, 1);
        Links.lies(x, "T", 0, rr(1));
        Links.hears(x, 1, 2, 1, 'H');
        Links.told(x, "H", 0, 2, 0, 2, 2, 0, 1);
        Links.lies(x, "H", 0, rr(2), Packets.data(2, 2, 'T'), Packets.data(3, 2, Packets.offer(0, 1)));
        Links.hears(x, 1, 3, 3, 'H');
        Links.told(x, "H to a MASTER", 0, 2, 0, 0, 0, 0, 1);
        Links.lies(x, "H to a MASTER", 0, rr(3), Packets.control(Packets.CLOSE, 0));
    }

    private static void sixteenWait() {
        CountedLink x = Links.offering(100);
        x.deliver(0);
        x.deliver(1);
        x.deliver(1);
        int[] waiting = {1, 5, 9, 13};
        for (int number = 2; number <= 5; number++) {
            Links.told(x, "before Y " + number, 0, 1, 0, 2, 3, waiting[number - 2], 1);
            Links.hears(x, 1, number, 0, 'Y');
        }
        Links.told(x, "behind Y 5", 0, 1, 0, 2, 3, 16, 1);
        Links.hears(x, 1, 6, 0, 'N');
        Links.told(x, "S has no room", 0, 0, 0, 2, 3, 16, 1);
        Links.lies(x, "nothing else sent", 0, rr(6));
        // What comes damaged has site 1 ask for all again.
        x.alter(0, 0, 1);
        x.deliver(0);
        x.deliver(1);
        // The fifth file's last message, the one with ten bytes, had no room either.
        int[] wanted = {31, 31, 31, 11, 31, 31, 31, 11, 31, 31, 31, 11, 31, 31, 31, 11, 31, 31, 31};
        Check.due("lengths of what was sent", lengthsOfMessages(x), wanted);
    }

    /** Hands over all, and tells how long the messages from site 0 were. */
    private static int[] lengthsOfMessages(CountedLink x) {
        int[] lengths = new int[100];
        int count = 0;
        for (int i = 0; i < 100 && x.waiting(0) + x.waiting(1) > 0; i++) {
            if (x.waiting(0) == 0) {
                x.deliver(1);
                continue;
            }
            int length = x.look(0, 0, 6);
            if (length != SpoolLink.NONE) {
                lengths[count] = length;
                count++;
            }
            x.deliver(0);
        }
        return java.util.Arrays.copyOf(lengths, count);
    }
}
