import java.util.Random;

/** Runs by fixed seeds, every answer held against PlainLink's: all promises. */
public final class RandomRunsTest {
    /** So many calls at the end of a run only read; in some runs twice or three times as many. */
    private static final int READS = 110;
    private static final int[] ODD = {-1, 0, 1, 2, 3, 5, 6, 12, 30, 37, 38, 99, 100, 101, 200, 201, 255, 256,
        Integer.MIN_VALUE, Integer.MAX_VALUE};

    private final CountedLink x = new CountedLink();
    private final PlainLink plain = new PlainLink();
    private final Random random;
    private final String run;
    private int calls = 0;
    private static final int[] reached = new int[8];

    private RandomRunsTest(int seed) {
        random = new Random(seed);
        run = "run " + seed + ", call ";
    }

    public static void main(String[] args) {
        int runs = args.length == 0 ? 6000 : Integer.parseInt(args[0]);
        for (int seed = 0; seed < runs; seed++) {
            new RandomRunsTest(seed).go(seed % 4);
        }
        dueDepth();
        Check.end();
    }

    /** The runs are worth something only when they come to the rare states too. */
    private static void dueDepth() {
        String[] names = {"full wires", "three out and more waiting", "executed numbers never queued",
            "sites idle after quiet ticks", "late INITs left out", "turned masters", "files of 100", "jobs executed"};
        for (int i = 0; i < reached.length; i++) {
            System.out.println(names[i] + ": " + reached[i]);
            Check.due("reached " + names[i], reached[i] > 0, true);
        }
    }

    private void due(String call, int got, int want) {
        calls++;
        Check.due(run + calls + ": " + call, got, want);
    }

    private void due(String call, boolean got, boolean want) {
        calls++;
        Check.due(run + calls + ": " + call, got, want);
    }

    private void go(int manner) {
        int reads = READS * (1 + below(3));
        queueSome();
        while (x.callsLeft() > reads) {
            step(manner);
            noteDepth();
        }
        compareAll();
    }

    private int below(int n) {
        return random.nextInt(n);
    }

    private int odd() {
        return ODD[below(ODD.length)];
    }

    private int site() {
        return below(40) == 0 ? odd() : below(2);
    }

    private void put(int b) {
        due("put(" + b + ")", x.put(b), plain.put(b));
    }

    private void queue(int site) {
        due("queue(" + site + ")", x.queue(site), plain.queue(site));
    }

    private void deliver(int from) {
        noteLateInit(from);
        due("deliver(" + from + ")", x.deliver(from), plain.deliver(from));
    }

    private void noteLateInit(int from) {
        int[] first = firstOn(from);
        if (first.length == 6 && PlainLink.isGood(first) && first[4] / 8 == Packets.INIT) {
            PlainLink.Session session = plain.sites[1 - from].session;
            boolean late = session.state == PlainLink.SLAVE && session.y == first[4] % 8 && session.acceptedCount > 0;
            reached[4] += late ? 1 : 0;
        }
    }

    /** Empty when there is none. */
    private int[] firstOn(int from) {
        boolean none = from < 0 || from > 1 || plain.wires.get(from).isEmpty();
        return none ? new int[0] : plain.wires.get(from).get(0);
    }

    private void lose(int from) {
        due("lose(" + from + ")", x.lose(from), plain.lose(from));
    }

    private void alter(int from, int at, int mask) {
        due("alter(" + from + ", " + at + ", " + mask + ")", x.alter(from, at, mask), plain.alter(from, at, mask));
    }

    private void tick() {
        int quiet0 = plain.sites[0].session.quiet;
        due("tick()", x.tick(), plain.tick());
        if (quiet0 == 40 && plain.told(0, 2) == PlainLink.IDLE) {
            reached[3]++;
        }
    }

    private void settle(int n) {
        due("settle(" + n + ")", x.settle(n), plain.settle(n));
    }

    private void call(int site) {
        due("call(" + site + ")", x.call(site), plain.call(site));
    }

    private void crash(int site) {
        due("crash(" + site + ")", x.crash(site), plain.crash(site));
    }

    private void queueSome() {
        for (int jobs = below(5); jobs > 0; jobs--) {
            int length = below(3) == 0 ? below(4) : below(10) == 0 ? 101 : below(40);
            for (int i = 0; i < length; i++) {
                put(below(256));
            }
            queue(below(2));
        }
    }

    private void step(int manner) {
        switch (below(manner == 3 ? 14 : 11)) {
            case 0 -> wake();
            case 1, 2 -> deliver(site());
            case 3 -> settle(below(20) == 0 ? odd() : 1 + below(6));
            case 4 -> ticks();
            case 5 -> {
                if (below(2) == 0) {
                    lose(site());
                }
            }
            case 6 -> {
                if (manner != 0) {
                    alter(site(), below(5) == 0 ? odd() : below(8), below(5) == 0 ? odd() : 1 << below(8));
                }
            }
            case 7 -> {
                if (below(10) == 0) {
                    crash(site());
                }
            }
            case 8 -> readSomething();
            case 9 -> {
                if (below(4) == 0) {
                    queueOne();
                }
            }
            default -> {
                if (manner >= 2) {
                    forge(below(2));
                } else {
                    deliver(below(2));
                }
            }
        }
    }

    private void queueOne() {
        for (int i = below(3); i > 0; i--) {
            put(below(20) == 0 ? odd() : below(256));
        }
        queue(site());
    }

    private void wake() {
        int site = site();
        if (plain.told(0, 2) == PlainLink.IDLE || plain.told(1, 2) == PlainLink.IDLE || below(10) == 0) {
            call(site);
        }
    }

    private void ticks() {
        int most = below(8) == 0 ? 45 : 5;
        for (int i = below(most); i >= 0; i--) {
            tick();
        }
    }

    private void forge(int from) {
        int[] first = firstOn(from).clone();
        if (first.length == 0) {
            deliver(1 - from);
            return;
        }
        int[] wanted = first.length == 6 ? forgedControl(1 - from) : forgedData(1 - from);
        for (int i = 0; i < first.length; i++) {
            if (first[i] != wanted[i]) {
                alter(from, i, first[i] ^ wanted[i]);
            }
        }
        deliver(from);
    }

    private int[] forgedControl(int to) {
        PlainLink.Session session = plain.sites[to].session;
        if (below(12) == 0) {
            return Packets.controlOf(below(256));
        }
        int x = new int[] {1, 2, 2, 4, 4, 5, 7, 7}[below(8)];
        int y = x == Packets.INIT || x == Packets.ANSWER ? Math.max(0, session.y) : below(8);
        if (x <= 4 && !session.out.isEmpty() && below(2) == 0) {
            y = session.out.peek().number();
        }
        return Packets.control(x, y);
    }

    private int[] forgedData(int to) {
        PlainLink.Session session = plain.sites[to].session;
        int number = below(8) == 0 ? below(8) : (session.accepted() + 1) % 8;
        int acknowledges = below(2) == 0 || session.out.isEmpty() ? below(8) : session.out.peek().number();
        int[] packet = Packets.data(number, acknowledges, forgedMessage());
        if (below(12) == 0) {
            int[] data = java.util.Arrays.copyOfRange(packet, 6, 38);
            data[below(2) == 0 ? 0 : below(32)] = below(3) == 0 ? 32 : below(2);
            return Packets.dataOf(packet[4], data);
        }
        return packet;
    }

    private int[] forgedMessage() {
        switch (below(12)) {
            case 0, 1:
                int length = below(3) == 0 ? 0 : below(6) + 30 * below(4);
                return Packets.offer(below(3) == 0 ? below(256) : below(5), length);
            case 2:
                return Packets.offer(below(5), 99 + below(4));
            case 3, 4:
                return Packets.part(random.ints(below(31), 0, 256).toArray());
            case 5, 6, 7:
                return Packets.text("Y");
            case 8:
                return Packets.text("T");
            case 9:
                return Packets.text("H");
            case 10:
                return Packets.text(below(2) == 0 ? "N" : "C");
            default:
                return Packets.text(new String[] {"HH", "TT", "YY", "CC", "NN", "S", "SAAA", "X", "h"}[below(9)]);
        }
    }

    private void readSomething() {
        int site = site();
        int k = below(5) == 0 ? odd() : below(6);
        int i = below(5) == 0 ? odd() : below(below(3) == 0 ? 101 : 40);
        switch (below(7)) {
            case 0 -> due("waiting(" + site + ")", x.waiting(site), plain.waiting(site));
            case 1 -> due("look(" + site + ", " + k + ", " + i + ")", x.look(site, k, i), plain.look(site, k, i));
            case 2 -> due("told(" + site + ", " + k + ")", x.told(site, k), plain.told(site, k));
            case 3 -> due("queued(" + site + ", " + k + ")", x.queued(site, k), plain.queued(site, k));
            case 4 -> due("executed(" + site + ", " + k + ")", x.executed(site, k), plain.executed(site, k));
            case 5 -> due("file(" + site + ", " + k + ", " + i + ")", x.file(site, k, i), plain.file(site, k, i));
            default -> due("times(" + site + ", " + k + ")", x.times(site, k), plain.times(site, k));
        }
    }

    /** What a site tells, its packets' sums, and what else there are calls left for. */
    private void compareAll() {
        for (int site = 0; site < 2 && x.callsLeft() > 100; site++) {
            for (int what = 0; what < 6; what++) {
                due("told(" + site + ", " + what + ")", x.told(site, what), plain.told(site, what));
            }
            for (int k = 0; k <= plain.wires.get(site).size(); k++) {
                for (int i = 2; i < 5; i++) {
                    due("look(" + site + ", " + k + ", " + i + ")", x.look(site, k, i), plain.look(site, k, i));
                }
            }
        }
        while (x.callsLeft() > 0) {
            readSomething();
        }
    }

    private void noteDepth() {
        for (int site = 0; site < 2; site++) {
            PlainLink.Site of = plain.sites[site];
            reached[0] += plain.wires.get(site).size() == 12 ? 1 : 0;
            reached[1] += of.session.wait.size() > 1 ? 1 : 0;
            int had = plain.sites[1 - site].had;
            reached[2] += of.executed.stream().anyMatch(e -> e.number() >= had) ? 1 : 0;
            reached[5] += of.session.state == PlainLink.MASTER && of.session.y != -1 ? 1 : 0;
            reached[6] += of.executed.stream().anyMatch(e -> e.file().size() == 100) ? 1 : 0;
            reached[7] += of.executed.size();
        }
    }
}
