/** Promises 5 and 13 to 17: the boundary cases of the messages, and of how many of them wait. */
public final class BoundaryMessageTest {
    public static void main(String[] args) {
        nextOfAnEmptyQueue();
        offerOfLength0();
        offerAbove100();
        offerOfWhatIsExecuted();
        offerForgetsAnotherOne();
        anyNumberIsExecutedOnce();
        partsOf30();
        partsWithoutBytes();
        partsWhenNoFileIsTaken();
        cutOff();
        haltOfTheSlave();
        masterAtHaltAndTurn();
        messagesThatAreNotTold();
        emptyQueue();
        masterDoesNotWait();
        sixteenOfTheMaster();
        sixteenOfTheSlave();
        turnWithoutRoom();
        leftOutForGood();
        Check.end();
    }

    private static int[] rr(int y) {
        return Packets.control(Packets.RR, y);
    }

    /** Site 0 has its three S out; site 1 accepted 2 and has nothing out, its next DATA is 3. */
    private static Forger quietSlave() {
        Forger forger = Forger.busy(1);
        forger.messageThatAcknowledges(1, 2, 'D');
        Links.told(forger.x, "quiet slave", 1, 0, 1, 3, 0, 0, 0);
        return forger;
    }

    /** Site 1 has Y and C out; site 0 accepted 3 and has nothing out, its next DATA is 4, its first job 2. */
    private static Forger quietMaster(int... lengths) {
        Forger forger = Forger.busy(lengths);
        forger.messageThatAcknowledges(0, 3, 'D');
        Links.told(forger.x, "quiet master", 0, lengths.length, 0, 2, 0, 0, 1);
        return forger;
    }

    private static void nextOfAnEmptyQueue() {
        Check.sentence("if its queue is empty it sends H; otherwise S, the first job's number, the length of its"
                + " file.");
        int[][] wanted = {{'H'}, {'S', 0, 0}, {'S', 0, 1}, {'S', 0, 100}};
        for (int i = 0; i < 4; i++) {
            CountedLink x = new CountedLink();
            if (i > 0) {
                Links.addJob(x, 1, wanted[i][2]);
            }
            x.call(1);
            x.deliver(1);
            x.deliver(0);
            Links.lies(x, "NEXT", 1, Packets.data(1, 0, wanted[i]));
        }
        // The last job that a site can have is 29.
        CountedLink x = new CountedLink();
        for (int i = 0; i < 30; i++) {
            x.queue(0);
        }
        x.call(0);
        for (int i = 0; i < 200 && x.told(0, 0) > 1; i++) {
            x.settle(1);
        }
        while (x.look(0, 0, 6) == -1 && x.lose(0)) {
            continue;
        }
        int[] got = {x.look(0, 0, 6), x.look(0, 0, 7), x.look(0, 0, 8), x.look(0, 0, 9)};
        Check.due("the offer of the last job", got, new int[] {3, 'S', 29, 0});
    }

    private static void offerOfLength0() {
        Check.sentence("of length 0 it executes it at once, and sends C behind Y");
        Forger forger = quietSlave();
        CountedLink x = forger.x;
        forger.message(1, Packets.offer(7, 0));
        Links.heads(x, "S 7 0", 1, rr(3), Packets.data(3, 3, 'Y'), Packets.data(4, 3, 'C'));
        Check.due("executed", x.executed(1, 1), 7);
        Check.due("its file", x.file(1, 1, 0), -1);
        forger.messageThatAcknowledges(1, 4, Packets.offer(8, 1));
        Links.heads(x, "S 8 1", 1, rr(4), Packets.data(5, 4, 'Y'));
        Check.due("not executed", x.told(1, 1), 2);
        forger.messageThatAcknowledges(1, 5, 'D', 44);
        Links.heads(x, "D", 1, rr(5), Packets.data(6, 5, 'C'));
        Check.due("executed", x.executed(1, 2), 8);
        Check.due("its file", x.file(1, 2, 0), 44);
        Check.due("its end", x.file(1, 2, 1), -1);
    }

    private static void offerAbove100() {
        Check.sentence("Messages that are not told here, S with a length above 100, and N, C, Y for an empty queue, are"
                + " left out");
        for (int length : new int[] {99, 100, 101, 102, 128, 255}) {
            Forger forger = quietSlave();
            CountedLink x = forger.x;
            forger.message(1, Packets.offer(7, length));
            if (length <= 100) {
                Links.lies(x, "S of " + length, 1, rr(3), Packets.data(3, 3, 'Y'));
            } else {
                Links.lies(x, "S of " + length, 1, rr(3));
            }
            Links.told(x, "S of " + length, 1, 0, 1, 3, length <= 100 ? 1 : 0, 0, 0);
            // One left out changes nothing: neither is a file taken, nor is one that is taken forgotten.
            forger.message(1, 'D', 1);
            Links.lies(x, "D behind S of " + length, 1, rr(4));
        }
        Forger forger = quietSlave();
        forger.message(1, Packets.offer(7, 2));
        forger.message(1, 'D', 1);
        forger.message(1, Packets.offer(8, 101));
        forger.message(1, 'D', 2);
        Check.due("executed", forger.x.executed(1, 1), 7);
        Check.due("byte 1", forger.x.file(1, 1, 1), 2);
        // It is left out for a number that is executed, too.
        forger = quietSlave();
        forger.message(1, Packets.offer(0, 101));
        Links.lies(forger.x, "S 0 101", 1, rr(3));
        forger.message(1, Packets.offer(0, 100));
        Links.lies(forger.x, "S 0 100", 1, rr(4), Packets.data(3, 4, 'N'));
    }

    private static void offerOfWhatIsExecuted() {
        Check.sentence("if it has executed that number: N; otherwise Y, and it takes a file of this length");
        for (int length : new int[] {0, 1, 100}) {
            Forger forger = quietSlave();
            forger.message(1, Packets.offer(0, length));
            Links.lies(forger.x, "S 0 " + length, 1, rr(3), Packets.data(3, 3, 'N'));
            forger.messageThatAcknowledges(1, 3, Packets.offer(1, length));
            Check.due("answer to S 1 " + length, Packets.on(forger.x, 1, 1), Packets.data(4, 4, 'Y'));
            Links.told(forger.x, "S 1 " + length, 1, 0, length == 0 ? 2 : 1, 3, length == 0 ? 2 : 1, 0, 0);
        }
        // A file that is taken in part is not executed.
        Forger forger = quietSlave();
        forger.message(1, Packets.offer(5, 2));
        forger.message(1, 'D', 1);
        forger.messageThatAcknowledges(1, 3, Packets.offer(5, 2));
        Links.lies(forger.x, "S 5 again", 1, rr(5), Packets.data(4, 5, 'Y'));
    }

    private static void offerForgetsAnotherOne() {
        Check.sentence("(what it took of another one is forgotten then)");
        Forger forger = quietSlave();
        CountedLink x = forger.x;
        forger.message(1, Packets.offer(5, 3));
        forger.message(1, 'D', 1, 2);
        forger.message(1, Packets.offer(6, 2));
        forger.message(1, 'D', 3);
        Check.due("executed", x.told(1, 1), 1);
        forger.message(1, 'D', 4);
        Check.due("executed", x.executed(1, 1), 6);
        int[] got = {x.file(1, 1, 0), x.file(1, 1, 1), x.file(1, 1, 2)};
        Check.due("its file", got, new int[] {3, 4, -1});
        // Nothing is left of the one before.
        forger.message(1, 'D', 5, 6, 7);
        Check.due("executed", x.told(1, 1), 2);
    }

    private static void anyNumberIsExecutedOnce() {
        Check.sentence("if it has executed that number: N; otherwise Y, and it takes a file of this length");
        for (int number : new int[] {1, 29, 30, 127, 128, 255}) {
            Forger forger = quietSlave();
            forger.message(1, Packets.offer(number, 0));
            Check.due("executed", forger.x.executed(1, 1), number);
            forger.messageThatAcknowledges(1, 4, Packets.offer(number, 0));
            Links.lies(forger.x, "S " + number + " again", 1, rr(4), Packets.data(5, 4, 'N'));
            Check.due("executed once", forger.x.told(1, 1), 2);
        }
    }

    private static void partsOf30() {
        Check.sentence("it sends the file in messages D and up to 30 bytes each.");
        int[][] wanted = {{}, {2}, {30}, {31}, {31, 2}, {31, 30}, {31, 31}, {31, 31, 2}, {31, 31, 31}, {31, 31, 31, 2},
            {31, 31, 31, 11}};
        int[] lengths = {0, 1, 29, 30, 31, 59, 60, 61, 90, 91, 100};
        for (int i = 0; i < lengths.length; i++) {
            Forger forger = quietMaster(lengths[i]);
            CountedLink x = forger.x;
            forger.message(0, 'Y');
            int out = Math.min(3, wanted[i].length);
            Links.told(x, "Y for " + lengths[i], 0, 1, 0, 2, out, wanted[i].length - out, 1);
            Check.due("sent for " + lengths[i], x.waiting(0), 1 + out);
            for (int k = 0; k < out; k++) {
                Check.due("n of part " + k + " of " + lengths[i], x.look(0, 1 + k, 6), wanted[i][k]);
                Check.due("letter of part " + k, x.look(0, 1 + k, 7), 'D');
                Check.due("first byte of part " + k, x.look(0, 1 + k, 8), Links.byteAt(30 * k));
                Check.due("last byte of part " + k, x.look(0, 1 + k, 6 + wanted[i][k]),
                        Links.byteAt(30 * k + wanted[i][k] - 2));
            }
        }
        CountedLink x = Links.offering(100);
        x.settle(5);
        for (int i = 0; i < 40 && x.look(0, 0, 6) != 11; i++) {
            x.settle(1);
        }
        Check.due("n of the fourth part", x.look(0, 0, 6), 11);
        Check.due("its last byte", x.look(0, 0, 17), Links.byteAt(99));
    }

    private static void partsWithoutBytes() {
        Check.sentence("(without bytes: nothing)");
        Forger forger = quietSlave();
        CountedLink x = forger.x;
        forger.message(1, Packets.offer(5, 2));
        forger.message(1, 'D');
        Links.lies(x, "D alone at first", 1, rr(4));
        forger.message(1, 'D', 9);
        Links.lies(x, "D and one byte", 1, rr(5));
        forger.message(1, 'D');
        Links.lies(x, "D alone in between", 1, rr(6));
        Links.told(x, "D alone in between", 1, 0, 1, 3, 1, 0, 0);
        forger.message(1, 'D', 0);
        Links.lies(x, "D and a byte 0", 1, rr(7), Packets.data(4, 7, 'C'));
        Check.due("byte 0", x.file(1, 1, 0), 9);
        Check.due("byte 1", x.file(1, 1, 1), 0);
        forger.message(1, 'D');
        Links.lies(x, "D alone behind the end", 1, rr(0));
        Links.told(x, "D alone behind the end", 1, 0, 2, 3, 2, 0, 0);
    }

    private static void partsWhenNoFileIsTaken() {
        Check.sentence("The SLAVE at D (taking a file)");
        Forger forger = quietSlave();
        CountedLink x = forger.x;
        forger.message(1, 'D', 1, 2, 3);
        Links.lies(x, "D when none is taken", 1, rr(3));
        Links.told(x, "D when none is taken", 1, 0, 1, 3, 0, 0, 0);
        forger.message(1, Packets.offer(5, 2));
        forger.message(1, 'D', 4);
        Check.due("not executed", x.told(1, 1), 1);
        forger.message(1, 'D', 5);
        Check.due("executed", x.told(1, 1), 2);
        Check.due("byte 0", x.file(1, 1, 0), 4);
        forger.message(1, 'D', 6, 7);
        Links.lies(x, "D when it is executed", 1, rr(7));
        Links.told(x, "D when it is executed", 1, 0, 2, 3, 2, 0, 0);
    }

    private static void cutOff() {
        Check.sentence("when it is as long as told (what is more is cut off) it is EXECUTED, on disk, and C is sent.");
        for (int length = 1; length <= 4; length++) {
            Forger forger = quietSlave();
            CountedLink x = forger.x;
            forger.message(1, Packets.offer(5, length));
            forger.message(1, 'D', 11, 12, 13);
            boolean whole = length <= 3;
            Links.told(x, "three of " + length, 1, 0, whole ? 2 : 1, 3, whole ? 2 : 1, 0, 0);
            for (int i = 0; i <= 4; i++) {
                Check.due("byte " + i + " of " + length, x.file(1, 1, i), whole && i < length ? 11 + i : -1);
            }
            Check.due("sent", x.waiting(1), whole ? 2 : 1);
        }
        // The longest file, by parts of 30 bytes: the fourth has 20 bytes more than are taken.
        Forger forger = quietSlave();
        forger.message(1, Packets.offer(5, 100));
        int[] part = new int[31];
        java.util.Arrays.fill(part, 77);
        part[0] = 'D';
        for (int i = 0; i < 4; i++) {
            Check.due("not executed", forger.x.told(1, 1), 1);
            forger.message(1, part);
        }
        Check.due("executed", forger.x.told(1, 1), 2);
        Check.due("byte 99", forger.x.file(1, 1, 99), 77);
        Check.due("byte 100", forger.x.file(1, 1, 100), -1);
    }

    private static void haltOfTheSlave() {
        Check.sentence("The SLAVE at H: if its queue is empty, H is sent back; otherwise T, and it is MASTER then, and"
                + " goes on to its NEXT.");
        Forger forger = quietSlave();
        forger.message(1, 'H');
        Links.lies(forger.x, "H back", 1, rr(3), Packets.data(3, 3, 'H'));
        Links.told(forger.x, "H back", 1, 0, 1, 3, 1, 0, 0);
        forger.x.queue(1);
        forger.messageThatAcknowledges(1, 3, 'H');
        int[] turn = Packets.data(4, 4, 'T');
        Links.lies(forger.x, "T", 1, rr(4), turn, Packets.data(5, 4, Packets.offer(0, 0)));
        Links.told(forger.x, "T", 1, 1, 1, 2, 2, 0, 0);
    }

    private static void masterAtHaltAndTurn() {
        Check.sentence("The MASTER at H: it sends CLOSE and is IDLE; at T it is SLAVE.");
        for (int jobs = 0; jobs < 2; jobs++) {
            Forger forger = quietMaster(new int[jobs]);
            forger.message(0, 'H');
            Links.lies(forger.x, "H", 0, rr(4), Packets.control(Packets.CLOSE, 0));
            Links.told(forger.x, "H", 0, jobs, 0, 0, 0, 0, 1);
            forger = quietMaster(new int[jobs]);
            forger.message(0, 'T');
            Links.lies(forger.x, "T", 0, rr(4));
            Links.told(forger.x, "T", 0, jobs, 0, 3, 0, 0, 1);
            // T is not told for a SLAVE; N, C and Y neither.
            for (int letter : new int[] {'T', 'N', 'C', 'Y'}) {
                forger.message(0, letter);
                Links.told(forger.x, "SLAVE", 0, jobs, 0, 3, 0, 0, 1);
            }
        }
    }

    private static void messagesThatAreNotTold() {
        Check.sentence("Letters are their bytes; S and numbers, D and bytes, others alone.");
        int[][] toSlave = {{'S'}, {'S', 9}, {'S', 9, 0, 0}, {'H', 0}, {'H', 'H'}, {'N'}, {'Y'}, {'C'}, {'T'},
            {'s', 9, 0}, {'h'}, {'d', 1}, {0}, {255}, {'R'}, {'G'}, {'I'}, {'E'}};
        for (int[] message : toSlave) {
            Forger forger = quietSlave();
            forger.x.queue(1);
            forger.message(1, message);
            Links.lies(forger.x, "left out by a SLAVE", 1, rr(3));
            Links.told(forger.x, "left out by a SLAVE", 1, 1, 1, 3, 0, 0, 0);
        }
        int[][] toMaster = {{'S', 9, 0}, {'D', 1}, {'D'}, {'N', 0}, {'C', 0}, {'Y', 0}, {'H', 0}, {'T', 0}, {'n'},
            {'c'}, {'y'}, {'h'}, {'t'}, {0}, {255}};
        for (int[] message : toMaster) {
            Forger forger = quietMaster(1);
            forger.message(0, message);
            Links.lies(forger.x, "left out by a MASTER", 0, rr(4));
            Links.told(forger.x, "left out by a MASTER", 0, 1, 0, 2, 0, 0, 1);
        }
    }

    private static void emptyQueue() {
        Check.sentence("Messages that are not told here, S with a length above 100, and N, C, Y for an empty queue, are"
                + " left out");
        for (int letter : new int[] {'N', 'C', 'Y'}) {
            Forger forger = quietMaster();
            forger.message(0, letter);
            Links.lies(forger.x, "for an empty queue", 0, rr(4));
            Links.told(forger.x, "for an empty queue", 0, 0, 0, 2, 0, 0, 1);
            forger = quietMaster(1);
            forger.message(0, letter);
            int[] wanted = letter == 'Y' ? new int[] {'D', 7} : new int[] {'H'};
            Links.lies(forger.x, "for a queue of one", 0, rr(4), Packets.data(4, 4, wanted));
            Check.due("left in it", forger.x.told(0, 0), letter == 'Y' ? 1 : 0);
        }
    }

    private static void masterDoesNotWait() {
        Check.sentence("at N, Y and C also when it does not wait for that");
        for (int letter : new int[] {'N', 'C'}) {
            Forger forger = quietMaster(1, 2);
            forger.message(0, letter);
            Links.lies(forger.x, "the first one", 0, rr(4), Packets.data(4, 4, Packets.offer(3, 2)));
            forger.messageThatAcknowledges(0, 4, letter);
            Links.lies(forger.x, "the second one", 0, rr(5), Packets.data(5, 5, 'H'));
            Check.due("left", forger.x.told(0, 0), 0);
        }
        Forger forger = quietMaster(1);
        forger.message(0, 'Y');
        forger.messageThatAcknowledges(0, 4, 'Y');
        Links.lies(forger.x, "Y again", 0, rr(5), Packets.data(5, 5, 'D', 7));
    }

    private static void sixteenOfTheMaster() {
        Check.sentence("so is what is to be sent when 16 messages wait");
        Forger forger = Forger.busy(100, 0, 0, 0, 0, 0);
        CountedLink x = forger.x;
        for (int i = 1; i <= 3; i++) {
            forger.message(0, 'Y');
            Check.due("wait behind Y " + i, x.told(0, 4), 4 * i);
        }
        for (int i = 1; i <= 5; i++) {
            forger.message(0, 'N');
            Links.told(x, "N " + i, 0, 6 - i, 0, 2, 3, Math.min(16, 12 + i), 1);
            // The job leaves all the same, and RR is no message.
            Check.due("sent for N " + i, x.waiting(0), 1);
        }
        // Room for one: S is sent by NEXT once more.
        forger.messageThatAcknowledges(0, 1, 'C');
        Links.told(x, "C", 0, 0, 0, 2, 3, 16, 1);
    }

    private static void sixteenOfTheSlave() {
        Check.sentence("so is what is to be sent when 16 messages wait");
        Forger forger = Forger.busy(1);
        CountedLink x = forger.x;
        for (int i = 1; i <= 8; i++) {
            forger.message(1, Packets.offer(10 + i, 0));
            Links.told(x, "S " + i, 1, 0, 1 + i, 3, 3, 2 * i - 1, 0);
        }
        // Y has room, C has none; then neither has. The jobs are executed all the same.
        forger.message(1, Packets.offer(20, 0));
        Links.told(x, "S 9", 1, 0, 10, 3, 3, 16, 0);
        forger.message(1, Packets.offer(21, 0));
        Links.told(x, "S 10", 1, 0, 11, 3, 3, 16, 0);
        Check.due("sent", x.waiting(1), 1);
    }

    private static void turnWithoutRoom() {
        Check.sentence("so is what is to be sent when 16 messages wait");
        Forger forger = Forger.busy(1);
        CountedLink x = forger.x;
        for (int i = 1; i <= 8; i++) {
            forger.message(1, Packets.offer(10 + i, 0));
        }
        forger.message(1, Packets.offer(0, 0));
        Links.told(x, "16 wait", 1, 0, 9, 3, 3, 16, 0);
        x.queue(1);
        forger.message(1, 'H');
        Links.told(x, "it is MASTER all the same", 1, 1, 9, 2, 3, 16, 0);
    }

    private static void leftOutForGood() {
        Check.sentence("so is what is to be sent when 16 messages wait");
        Forger forger = Forger.busy(100, 0, 0);
        CountedLink x = forger.x;
        for (int i = 0; i < 5; i++) {
            forger.message(0, 'Y');
        }
        Links.told(x, "Y", 0, 3, 0, 2, 3, 16, 1);
        // Three S are out; the fifth file has no room: they come, 16 D, and nothing more.
        forger.control(0, Packets.RJ, 0);
        int[] lengths = new int[40];
        int count = 0;
        int n = x.look(0, 0, 6);
        while (count < 40 && (x.deliver(0) == 1 || x.deliver(1) == 1)) {
            if (n != -1) {
                lengths[count] = n;
                count++;
            }
            n = x.look(0, 0, 6);
        }
        int[] wanted = {3, 3, 3, 31, 31, 31, 11, 31, 31, 31, 11, 31, 31, 31, 11, 31, 31, 31, 11};
        Check.due("lengths of what was sent", java.util.Arrays.copyOf(lengths, count), wanted);
        Links.told(x, "all sent", 0, 3, 0, 2, 0, 0, 1);
    }
}
