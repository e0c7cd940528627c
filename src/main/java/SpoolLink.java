/**
 * Two sites with spools of jobs and a line between them that speaks the g protocol.
 *
 * <p>What a site keeps through a crash is its {@link Disk}; all else of a {@link Site} is its session.
 */
public final class SpoolLink {
    public static final int NONE = -1;

    private static final int FILE_MOST = 100;
    private static final int SETTLE_MOST = 200;
    private static final int BYTE_MOST = 255;

    /** By the site that sends on it. */
    private final Wire[] wires;
    private final Site[] sites;
    private final int[] nextFile;
    private int nextLength;

    public SpoolLink() {
        wires = new Wire[] {new Wire(), new Wire()};
        sites = new Site[] {new Site(0, wires[0]), new Site(1, wires[1])};
        nextFile = new int[FILE_MOST];
        nextLength = 0;
    }

    public int put(int b) {
        if (b < 0 || b > BYTE_MOST || nextLength >= FILE_MOST) {
            return NONE;
        }
        nextFile[nextLength] = b;
        nextLength++;
        return nextLength;
    }

    public int queue(int site) {
        if (!isSite(site)) {
            return NONE;
        }
        int number = sites[site].disk.addJob(nextFile, nextLength);
        if (number != NONE) {
            nextLength = 0;
        }
        return number;
    }

    public boolean call(int site) {
        if (!isSite(site) || sites[site].state != Site.IDLE) {
            return false;
        }
        wires[0].clear();
        wires[1].clear();
        sites[site].beginCall();
        return true;
    }

    public int deliver(int from) {
        return isSite(from) ? handOver(from) : NONE;
    }

    public boolean lose(int from) {
        if (packetOn(from, 0) == null) {
            return false;
        }
        wires[from].dropFirst();
        return true;
    }

    public boolean alter(int from, int at, int mask) {
        Packet first = packetOn(from, 0);
        if (first == null || at < 0 || at >= first.length || mask < 1 || mask > BYTE_MOST) {
            return false;
        }
        first.bytes[at] ^= mask;
        return true;
    }

    public int tick() {
        int sentBy0 = sites[0].passTick();
        int sentBy1 = sites[1].passTick();
        return sentBy0 + sentBy1;
    }

    public boolean crash(int site) {
        if (!isSite(site)) {
            return false;
        }
        sites[site].begin(Site.IDLE);
        return true;
    }

    public int settle(int n) {
        if (n < 1 || n > SETTLE_MOST) {
            return NONE;
        }
        int turn = 0;
        for (int handed = 0; handed < n; handed++) {
            int from = wires[turn].count > 0 ? turn : 1 - turn;
            if (handOver(from) == NONE) {
                return handed;
            }
            turn = 1 - from;
        }
        return n;
    }

    public int waiting(int from) {
        return isSite(from) ? wires[from].count : NONE;
    }

    public int look(int from, int k, int i) {
        Packet packet = packetOn(from, k);
        if (packet == null || i < 0 || i >= packet.length) {
            return NONE;
        }
        return packet.bytes[i];
    }

    public int told(int site, int what) {
        if (!isSite(site)) {
            return NONE;
        }
        Site of = sites[site];
        switch (what) {
            case 0:
                return of.disk.jobsLeft();
            case 1:
                return of.disk.doneCount;
            case 2:
                return of.state;
            case 3:
                return of.window.out;
            case 4:
                return of.window.behind;
            case 5:
                return of.disk.callsBegun;
            default:
                return NONE;
        }
    }

    public int queued(int site, int k) {
        if (!isSite(site) || k < 0 || k >= sites[site].disk.jobsLeft()) {
            return NONE;
        }
        return sites[site].disk.jobsGone + k;
    }

    public int executed(int site, int k) {
        Job job = doneJob(site, k);
        return job == null ? NONE : job.number;
    }

    public int file(int site, int k, int i) {
        Job job = doneJob(site, k);
        if (job == null || i < 0 || i >= job.bytes.length) {
            return NONE;
        }
        return job.bytes[i];
    }

    public int times(int site, int job) {
        if (!isSite(site) || job < 0 || job >= sites[site].disk.jobsHad) {
            return NONE;
        }
        return sites[1 - site].disk.hasDone(job) ? 1 : 0;
    }

    private static boolean isSite(int site) {
        return site == 0 || site == 1;
    }

    private Packet packetOn(int from, int k) {
        return isSite(from) ? wires[from].packet(k) : null;
    }

    private Job doneJob(int site, int k) {
        return isSite(site) ? sites[site].disk.doneJob(k) : null;
    }

    private int handOver(int from) {
        Packet first = wires[from].packet(0);
        if (first == null) {
            return NONE;
        }
        // The receiver sends on the other wire alone, so that the dropped packet stays as it is meanwhile.
        wires[from].dropFirst();
        return sites[1 - from].receive(first) ? 1 : 0;
    }

    /** Six bytes of head and, in DATA, 32 bytes more; altered ones keep the length with which they were sent. */
    private static final class Packet {
        static final int CLOSE = 1;
        static final int RJ = 2;
        static final int RR = 4;
        static final int ANSWER = 5;
        static final int INIT = 7;

        private static final int START = 16;
        private static final int CONTROL_KIND = 9;
        private static final int DATA_KIND = 1;
        private static final int DATA_TYPE = 2;
        private static final int CHECK_FROM = 43690;
        private static final int HEAD = 6;
        private static final int DATA = 32;
        private static final int WORD = 65535;

        final int[] bytes = new int[HEAD + DATA];
        int length = 0;

        void fillControl(int x, int y) {
            length = HEAD;
            int c = 8 * x + y;
            fillHead(CONTROL_KIND, c, CHECK_FROM - c);
        }

        void fillData(int number, int accepted, Message message) {
            length = HEAD + DATA;
            bytes[HEAD] = message.length;
            for (int i = 0; i < Message.MOST; i++) {
                bytes[HEAD + 1 + i] = i < message.length ? message.bytes[i] : 0;
            }
            int c = 64 * DATA_TYPE + 8 * number + accepted;
            fillHead(DATA_KIND, c, CHECK_FROM - (sum() ^ c));
        }

        boolean isData() {
            return length > HEAD;
        }

        int x() {
            return bytes[4] >> 3 & 7;
        }

        int y() {
            return bytes[4] & 7;
        }

        int messageLength() {
            return bytes[HEAD];
        }

        /** Of a packet that is GOOD, the message's byte i, 0 behind its end. */
        int messageByte(int i) {
            return i >= 0 && i < Message.MOST ? bytes[HEAD + 1 + i] : 0;
        }

        boolean isGood() {
            if (bytes[0] != START) {
                return false;
            }
            int c = bytes[4];
            if (isData()) {
                return c >> 6 == DATA_TYPE && isMessageWellFormed()
                        && hasHead(DATA_KIND, c, CHECK_FROM - (sum() ^ c));
            }
            return c >> 6 == 0 && isControl(x()) && hasHead(CONTROL_KIND, c, CHECK_FROM - c);
        }

        private void fillHead(int kind, int c, int check) {
            int low = check & 255;
            int high = check >> 8 & 255;
            bytes[0] = START;
            bytes[1] = kind;
            bytes[2] = low;
            bytes[3] = high;
            bytes[4] = c;
            bytes[5] = kind ^ low ^ high ^ c;
        }

        private boolean hasHead(int kind, int c, int check) {
            int low = check & 255;
            int high = check >> 8 & 255;
            return bytes[1] == kind && bytes[2] == low && bytes[3] == high && bytes[5] == (kind ^ low ^ high ^ c);
        }

        private static boolean isControl(int x) {
            return x == CLOSE || x == RJ || x == RR || x == ANSWER || x == INIT;
        }

        private boolean isMessageWellFormed() {
            int n = bytes[HEAD];
            if (n < 1 || n > Message.MOST) {
                return false;
            }
            for (int i = HEAD + 1 + n; i < HEAD + DATA; i++) {
                if (bytes[i] != 0) {
                    return false;
                }
            }
            return true;
        }

        private int sum() {
            int p = WORD;
            int q = 0;
            for (int left = DATA; left > 0; left--) {
                int before = p;
                int rotated = (p << 1 | p >> 15) & WORD;
                p = rotated + bytes[HEAD + DATA - left] & WORD;
                q = q + (p ^ left) & WORD;
                if (p <= before) {
                    p ^= q;
                }
            }
            return p;
        }
    }

    /** Packets on their way from one site, in a ring. */
    private static final class Wire {
        private static final int MOST = 12;

        private final Packet[] ring;
        private final Packet lost = new Packet();
        private int first = 0;
        int count = 0;

        Wire() {
            ring = new Packet[MOST];
            for (int i = 0; i < MOST; i++) {
                ring[i] = new Packet();
            }
        }

        Packet packet(int k) {
            return k >= 0 && k < count ? ring[(first + k) % MOST] : null;
        }

        /** One packet more, to be filled; when there is no room, one that lies nowhere. */
        Packet add() {
            if (count >= MOST) {
                return lost;
            }
            count++;
            return ring[(first + count - 1) % MOST];
        }

        void dropFirst() {
            if (count > 0) {
                first = (first + 1) % MOST;
                count--;
            }
        }

        void clear() {
            count = 0;
        }
    }

    /** A letter, and what belongs to it. */
    private static final class Message {
        static final int MOST = 31;

        final int[] bytes = new int[MOST];
        int length = 0;

        void append(int b) {
            if (length < MOST) {
                bytes[length] = b;
                length++;
            }
        }
    }

    /** The messages of a session that are out, and those that wait behind them. */
    private static final class Window {
        private static final int OUT_MOST = 3;
        private static final int BEHIND_MOST = 16;
        /** One more than are held, for a message that is left out. */
        private static final int PLACES = OUT_MOST + BEHIND_MOST + 1;

        private final Message[] ring;
        private int first = 0;
        private int oldest = 1;
        int out = 0;
        int behind = 0;

        Window() {
            ring = new Message[PLACES];
            for (int i = 0; i < PLACES; i++) {
                ring[i] = new Message();
            }
        }

        void clear() {
            oldest = 1;
            out = 0;
            behind = 0;
        }

        /**
         * One message more, which begins with this letter; when there is no room, one that is not held.
         * As whatever may be out is let out before the next packet comes, both bounds are taken together.
         */
        Message add(int letter) {
            Message message = ring[(first + out + behind) % PLACES];
            message.bytes[0] = letter;
            message.length = 1;
            if (out + behind < OUT_MOST + BEHIND_MOST) {
                behind++;
            }
            return message;
        }

        /** Lets messages out as far as may be: the place of the first of them. */
        int letOut() {
            int from = out;
            int more = Math.min(behind, OUT_MOST - out);
            out += more;
            behind -= more;
            return from;
        }

        /** True when something was acknowledged. */
        boolean acknowledge(int y) {
            int known = (y - oldest & 7) + 1;
            if (known > out) {
                return false;
            }
            first = (first + known) % PLACES;
            oldest = oldest + known & 7;
            out -= known;
            return true;
        }

        int number(int place) {
            return oldest + place & 7;
        }

        Message message(int place) {
            return ring[(first + place) % PLACES];
        }
    }

    /** The file that a slave takes. */
    private static final class Intake {
        private final int[] bytes = new int[FILE_MOST];
        private boolean taking = false;
        private int number = 0;
        private int length = 0;
        private int took = 0;

        void forget() {
            taking = false;
        }

        void begin(int newNumber, int newLength) {
            taking = true;
            number = newNumber;
            length = newLength;
            took = 0;
        }

        /** Takes what stands behind the letter of a message; what is more than was told is cut off. */
        void takePart(Packet packet) {
            for (int i = 1; i < packet.messageLength() && took < length && took < FILE_MOST; i++) {
                bytes[took] = packet.messageByte(i);
                took++;
            }
        }

        boolean isWhole() {
            return taking && took == length;
        }

        Job job() {
            return new Job(number, bytes, length);
        }
    }

    /** A number and a file. */
    private static final class Job {
        final int number;
        final int[] bytes;

        Job(int number, int[] from, int length) {
            this.number = number;
            bytes = new int[length];
            System.arraycopy(from, 0, bytes, 0, length);
        }
    }

    /** What a crash leaves to a site. */
    private static final class Disk {
        private static final int JOBS_MOST = 30;
        /** An altered packet can name any job number that a byte can hold. */
        private static final int DONE_MOST = 256;

        /** Jobs leave in the order in which they came: the queue is what stands from jobsGone up to jobsHad. */
        private final Job[] jobs = new Job[JOBS_MOST];
        int jobsGone = 0;
        int jobsHad = 0;
        private final Job[] done = new Job[DONE_MOST];
        int doneCount = 0;
        int callsBegun = 0;

        int jobsLeft() {
            return jobsHad - jobsGone;
        }

        int addJob(int[] from, int length) {
            if (jobsHad >= JOBS_MOST) {
                return NONE;
            }
            int number = jobsHad;
            jobs[number] = new Job(number, from, length);
            jobsHad++;
            return number;
        }

        /** Null when the queue is empty. */
        Job firstJob() {
            return jobsGone < jobsHad ? jobs[jobsGone] : null;
        }

        boolean dropFirstJob() {
            if (jobsGone >= jobsHad) {
                return false;
            }
            jobsGone++;
            return true;
        }

        boolean hasDone(int number) {
            for (int i = 0; i < doneCount; i++) {
                if (done[i].number == number) {
                    return true;
                }
            }
            return false;
        }

        void addDone(Job job) {
            if (doneCount < DONE_MOST) {
                done[doneCount] = job;
                doneCount++;
            }
        }

        Job doneJob(int k) {
            return k >= 0 && k < doneCount ? done[k] : null;
        }
    }

    /** A site: its disk, and its session on the line. */
    private static final class Site {
        static final int IDLE = 0;
        static final int CALLING = 1;
        static final int MASTER = 2;
        static final int SLAVE = 3;

        private static final int TICKS_TO_SEND_AGAIN = 4;
        private static final int TIMES_SENT_AGAIN = 5;
        private static final int QUIET_TICKS_MOST = 41;
        private static final int PART_MOST = 30;

        private final int place;
        private final Wire wire;
        final Disk disk = new Disk();
        final Window window = new Window();
        private final Intake intake = new Intake();
        int state = IDLE;
        private int callY = 0;
        /** The y of the INIT that opened this session, NONE when none did. */
        private int openedByY = NONE;
        private int accepted = 0;
        /** The number accepted last comes round to 0 again, and so does not tell this. */
        private boolean hasAccepted = false;
        private int ticks = 0;
        private int timesSentAgain = 0;
        private int quietTicks = 0;

        Site(int place, Wire wire) {
            this.place = place;
            this.wire = wire;
        }

        /** A new session, in which nothing is left of the one before. */
        void begin(int newState) {
            state = newState;
            window.clear();
            intake.forget();
            openedByY = NONE;
            accepted = 0;
            hasAccepted = false;
            ticks = 0;
            timesSentAgain = 0;
            quietTicks = 0;
        }

        void beginCall() {
            begin(CALLING);
            callY = disk.callsBegun & 7;
            disk.callsBegun++;
            wire.add().fillControl(Packet.INIT, callY);
        }

        /** How many packets were sent again. */
        int passTick() {
            if (state == CALLING || window.out > 0) {
                return passTickUnanswered();
            }
            if (isOpen()) {
                quietTicks++;
                if (quietTicks >= QUIET_TICKS_MOST) {
                    begin(IDLE);
                }
            }
            return 0;
        }

        /** True when the packet is GOOD. */
        boolean receive(Packet packet) {
            if (!packet.isGood()) {
                if (isOpen()) {
                    wire.add().fillControl(Packet.RJ, accepted);
                }
                return false;
            }
            quietTicks = 0;
            int x = packet.x();
            if (packet.isData()) {
                if (isOpen()) {
                    takeData(packet);
                }
            } else if (x == Packet.INIT) {
                takeInit(packet.y());
            } else if (x == Packet.ANSWER) {
                takeAnswer(packet.y());
            } else if (isOpen()) {
                takeControl(x, packet.y());
            }
            sendOutFrom(window.letOut());
            return true;
        }

        private boolean isOpen() {
            return state == MASTER || state == SLAVE;
        }

        private int passTickUnanswered() {
            ticks++;
            if (ticks < TICKS_TO_SEND_AGAIN) {
                return 0;
            }
            if (timesSentAgain >= TIMES_SENT_AGAIN) {
                begin(IDLE);
                return 0;
            }
            timesSentAgain++;
            ticks = 0;
            if (state == CALLING) {
                wire.add().fillControl(Packet.INIT, callY);
                return 1;
            }
            sendOutFrom(0);
            return window.out;
        }

        private void sendOutFrom(int from) {
            for (int i = from; i < window.out; i++) {
                wire.add().fillData(window.number(i), accepted, window.message(i));
            }
        }

        private void takeInit(int y) {
            boolean callsMeet = place == 0 && state == CALLING;
            boolean comesLate = state == SLAVE && openedByY == y && hasAccepted;
            if (callsMeet || comesLate) {
                return;
            }
            begin(SLAVE);
            openedByY = y;
            wire.add().fillControl(Packet.ANSWER, y);
        }

        private void takeAnswer(int y) {
            if (state == CALLING && callY == y) {
                begin(MASTER);
                goOn();
            }
        }

        private void takeControl(int x, int y) {
            if (x == Packet.CLOSE) {
                begin(IDLE);
                return;
            }
            takeAcknowledgement(y);
            if (x == Packet.RJ) {
                ticks = 0;
                sendOutFrom(0);
            }
        }

        private void takeAcknowledgement(int y) {
            if (window.acknowledge(y)) {
                ticks = 0;
                timesSentAgain = 0;
            }
        }

        private void takeData(Packet packet) {
            takeAcknowledgement(packet.y());
            // What waited goes out before RR, and still tells the number that was accepted before this one.
            sendOutFrom(window.letOut());
            if (packet.x() != (accepted + 1 & 7)) {
                wire.add().fillControl(Packet.RR, accepted);
                return;
            }
            accepted = packet.x();
            hasAccepted = true;
            wire.add().fillControl(Packet.RR, accepted);
            if (state == MASTER) {
                doAsMaster(packet);
            } else {
                doAsSlave(packet);
                executeWhatIsWhole();
            }
        }

        private void doAsMaster(Packet packet) {
            if (packet.messageLength() != 1) {
                return;
            }
            switch (packet.messageByte(0)) {
                case 'N':
                case 'C':
                    if (disk.dropFirstJob()) {
                        goOn();
                    }
                    break;
                case 'Y':
                    addFile();
                    break;
                case 'H':
                    wire.add().fillControl(Packet.CLOSE, 0);
                    begin(IDLE);
                    break;
                case 'T':
                    state = SLAVE;
                    break;
                default:
                    break;
            }
        }

        private void doAsSlave(Packet packet) {
            int length = packet.messageLength();
            int letter = packet.messageByte(0);
            if (letter == 'S' && length == 3) {
                takeOffer(packet.messageByte(1), packet.messageByte(2));
            } else if (letter == 'D') {
                if (intake.taking) {
                    intake.takePart(packet);
                }
            } else if (letter == 'H' && length == 1) {
                if (disk.jobsLeft() == 0) {
                    window.add('H');
                } else {
                    window.add('T');
                    state = MASTER;
                    goOn();
                }
            }
        }

        private void takeOffer(int number, int length) {
            if (length > FILE_MOST) {
                return;
            }
            if (disk.hasDone(number)) {
                window.add('N');
            } else {
                window.add('Y');
                intake.begin(number, length);
            }
        }

        private void executeWhatIsWhole() {
            if (intake.isWhole()) {
                disk.addDone(intake.job());
                intake.forget();
                window.add('C');
            }
        }

        /** The master's NEXT. */
        private void goOn() {
            Job job = disk.firstJob();
            if (job == null) {
                window.add('H');
                return;
            }
            Message offer = window.add('S');
            offer.append(job.number);
            offer.append(job.bytes.length);
        }

        private void addFile() {
            Job job = disk.firstJob();
            if (job == null) {
                return;
            }
            for (int from = 0; from < job.bytes.length; from += PART_MOST) {
                Message part = window.add('D');
                int end = Math.min(from + PART_MOST, job.bytes.length);
                for (int i = from; i < end; i++) {
                    part.append(job.bytes[i]);
                }
            }
        }
    }
}
