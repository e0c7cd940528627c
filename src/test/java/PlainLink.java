import java.util.ArrayDeque;
import java.util.ArrayList;
import java.util.Deque;
import java.util.List;

/**
 * The document once more, without any thought of room or of speed: what RandomRunsTest holds the program against.
 * It sends where the document says so, where the program gathers first.
 */
final class PlainLink {
    static final int IDLE = 0;
    static final int CALLING = 1;
    static final int MASTER = 2;
    static final int SLAVE = 3;

    record Job(int number, List<Integer> file) {
    }

    record Sent(int number, int[] message) {
    }

    static final class Site {
        final List<Job> queue = new ArrayList<>();
        final List<Job> executed = new ArrayList<>();
        int had;
        int calls;
        Session session = new Session(IDLE);
    }

    static final class Session {
        int state;
        int y = -1;
        final Deque<Sent> out = new ArrayDeque<>();
        final Deque<int[]> wait = new ArrayDeque<>();
        int sent;
        int acceptedCount;
        int takesNumber = -1;
        int takesLength;
        List<Integer> took = new ArrayList<>();
        int ticks;
        int again;
        int quiet;

        Session(int state) {
            this.state = state;
        }

        boolean isOpen() {
            return state == MASTER || state == SLAVE;
        }

        int accepted() {
            return acceptedCount % 8;
        }
    }

    final Site[] sites = {new Site(), new Site()};
    final List<List<int[]>> wires = List.of(new ArrayList<>(), new ArrayList<>());
    private List<Integer> next = new ArrayList<>();

    int put(int b) {
        if (next.size() == 100 || b < 0 || b > 255) {
            return -1;
        }
        next.add(b);
        return next.size();
    }

    int queue(int site) {
        if (isNoSite(site) || sites[site].had == 30) {
            return -1;
        }
        sites[site].queue.add(new Job(sites[site].had, next));
        next = new ArrayList<>();
        return sites[site].had++;
    }

    boolean call(int site) {
        if (isNoSite(site) || sites[site].session.state != IDLE) {
            return false;
        }
        wires.get(0).clear();
        wires.get(1).clear();
        Session session = new Session(CALLING);
        session.y = sites[site].calls % 8;
        sites[site].session = session;
        sites[site].calls++;
        lay(site, Packets.control(Packets.INIT, session.y));
        return true;
    }

    int deliver(int from) {
        if (isNoSite(from) || wires.get(from).isEmpty()) {
            return -1;
        }
        return comes(1 - from, wires.get(from).remove(0)) ? 1 : 0;
    }

    boolean lose(int from) {
        if (isNoSite(from) || wires.get(from).isEmpty()) {
            return false;
        }
        wires.get(from).remove(0);
        return true;
    }

    boolean alter(int from, int at, int mask) {
        if (look(from, 0, at) == -1 || mask < 1 || mask > 255) {
            return false;
        }
        wires.get(from).get(0)[at] ^= mask;
        return true;
    }

    int tick() {
        return tickOf(0) + tickOf(1);
    }

    boolean crash(int site) {
        if (isNoSite(site)) {
            return false;
        }
        sites[site].session = new Session(IDLE);
        return true;
    }

    int settle(int n) {
        if (n < 1 || n > 200) {
            return -1;
        }
        int count = 0;
        while (count < n && !(wires.get(0).isEmpty() && wires.get(1).isEmpty())) {
            for (int from = 0; from < 2; from++) {
                if (count < n && deliver(from) != -1) {
                    count++;
                }
            }
        }
        return count;
    }

    int waiting(int from) {
        return isNoSite(from) ? -1 : wires.get(from).size();
    }

    int look(int from, int k, int i) {
        if (isNoSite(from) || k < 0 || k >= wires.get(from).size() || i < 0 || i >= wires.get(from).get(k).length) {
            return -1;
        }
        return wires.get(from).get(k)[i];
    }

    int told(int site, int what) {
        if (isNoSite(site)) {
            return -1;
        }
        Session session = sites[site].session;
        return switch (what) {
            case 0 -> sites[site].queue.size();
            case 1 -> sites[site].executed.size();
            case 2 -> session.state;
            case 3 -> session.out.size();
            case 4 -> session.wait.size();
            case 5 -> sites[site].calls;
            default -> -1;
        };
    }

    int queued(int site, int k) {
        return isNoSite(site) || isOutside(k, sites[site].queue) ? -1 : sites[site].queue.get(k).number;
    }

    int executed(int site, int k) {
        return isNoSite(site) || isOutside(k, sites[site].executed) ? -1 : sites[site].executed.get(k).number;
    }

    int file(int site, int k, int i) {
        if (executed(site, k) == -1 || isOutside(i, sites[site].executed.get(k).file)) {
            return -1;
        }
        return sites[site].executed.get(k).file.get(i);
    }

    int times(int site, int job) {
        if (isNoSite(site) || job < 0 || job >= sites[site].had) {
            return -1;
        }
        return (int) sites[1 - site].executed.stream().filter(e -> e.number == job).count();
    }

    private static boolean isNoSite(int site) {
        return site < 0 || site > 1;
    }

    private static boolean isOutside(int k, List<?> list) {
        return k < 0 || k >= list.size();
    }

    private void lay(int from, int[] packet) {
        if (wires.get(from).size() < 12) {
            wires.get(from).add(packet);
        }
    }

    private void layData(int site, Sent sent) {
        lay(site, Packets.data(sent.number, sites[site].session.accepted(), sent.message));
    }

    private void send(int site, int... message) {
        Session session = sites[site].session;
        if (session.out.size() < 3) {
            if (session.out.isEmpty()) {
                session.ticks = 0;
            }
            session.sent++;
            Sent sent = new Sent(session.sent % 8, message);
            session.out.add(sent);
            layData(site, sent);
        } else if (session.wait.size() < 16) {
            session.wait.add(message);
        }
    }

    private int tickOf(int site) {
        Session session = sites[site].session;
        if (session.state == CALLING || !session.out.isEmpty()) {
            session.ticks++;
            if (session.ticks == 4 && session.again == 5) {
                crash(site);
            } else if (session.ticks == 4) {
                session.again++;
                return sendAgain(site);
            }
        } else if (session.isOpen()) {
            session.quiet++;
            if (session.quiet == 41) {
                crash(site);
            }
        }
        return 0;
    }

    private int sendAgain(int site) {
        Session session = sites[site].session;
        session.ticks = 0;
        if (session.state == CALLING) {
            lay(site, Packets.control(Packets.INIT, session.y));
            return 1;
        }
        session.out.forEach(sent -> layData(site, sent));
        return session.out.size();
    }

    static boolean isGood(int[] packet) {
        if (packet.length == 6) {
            boolean known = List.of(1, 2, 4, 5, 7).contains(packet[4] / 8);
            return known && java.util.Arrays.equals(packet, Packets.controlOf(packet[4]));
        }
        int n = packet[6];
        if (packet[4] / 64 != 2 || n < 1 || n > 31) {
            return false;
        }
        int[] message = java.util.Arrays.copyOfRange(packet, 7, 7 + n);
        return java.util.Arrays.equals(packet, Packets.data(packet[4] / 8 % 8, packet[4] % 8, message));
    }

    private boolean comes(int site, int[] packet) {
        Session session = sites[site].session;
        if (!isGood(packet)) {
            if (session.isOpen()) {
                lay(site, Packets.control(Packets.RJ, session.accepted()));
            }
            return false;
        }
        session.quiet = 0;
        int x = packet[4] / 8 % 8;
        int y = packet[4] % 8;
        if (packet.length == 38) {
            if (session.isOpen()) {
                dataComes(site, x, y, java.util.Arrays.copyOfRange(packet, 7, 7 + packet[6]));
            }
        } else if (x == Packets.INIT) {
            initComes(site, y);
        } else if (x == Packets.ANSWER) {
            if (session.state == CALLING && session.y == y) {
                sites[site].session = new Session(MASTER);
                goOn(site);
            }
        } else if (session.isOpen()) {
            if (x == Packets.CLOSE) {
                crash(site);
            } else {
                acknowledged(site, y, x == Packets.RJ);
            }
        }
        return true;
    }

    private void initComes(int site, int y) {
        Session session = sites[site].session;
        if (site == 0 && session.state == CALLING) {
            return;
        }
        if (session.state == SLAVE && session.y == y && session.acceptedCount > 0) {
            return;
        }
        sites[site].session = new Session(SLAVE);
        sites[site].session.y = y;
        lay(site, Packets.control(Packets.ANSWER, y));
    }

    private void acknowledged(int site, int y, boolean again) {
        Session session = sites[site].session;
        if (session.out.stream().anyMatch(sent -> sent.number == y)) {
            session.ticks = 0;
            session.again = 0;
            while (session.out.remove().number != y) {
                continue;
            }
        }
        if (again) {
            sendAgain(site);
        }
        while (session.out.size() < 3 && !session.wait.isEmpty()) {
            send(site, session.wait.remove());
        }
    }

    private void dataComes(int site, int x, int y, int[] message) {
        Session session = sites[site].session;
        acknowledged(site, y, false);
        if (x == (session.acceptedCount + 1) % 8) {
            session.acceptedCount++;
            lay(site, Packets.control(Packets.RR, x));
            done(site, message);
        } else {
            lay(site, Packets.control(Packets.RR, session.accepted()));
        }
    }

    private void goOn(int site) {
        if (sites[site].queue.isEmpty()) {
            send(site, 'H');
        } else {
            send(site, 'S', sites[site].queue.get(0).number, sites[site].queue.get(0).file.size());
        }
    }

    private void done(int site, int[] message) {
        Session session = sites[site].session;
        String role = session.state == MASTER ? "master " : "slave ";
        String form = message[0] == 'D' ? "D" : (char) message[0] + "" + message.length;
        switch (role + form) {
            case "master N1", "master C1" -> {
                if (!sites[site].queue.isEmpty()) {
                    sites[site].queue.remove(0);
                    goOn(site);
                }
            }
            case "master Y1" -> sendFile(site);
            case "master H1" -> {
                lay(site, Packets.control(Packets.CLOSE, 0));
                crash(site);
            }
            case "master T1" -> session.state = SLAVE;
            case "slave S3" -> offered(site, message[1], message[2]);
            case "slave D" -> partComes(site, message);
            case "slave H1" -> {
                if (sites[site].queue.isEmpty()) {
                    send(site, 'H');
                } else {
                    send(site, 'T');
                    session.state = MASTER;
                    goOn(site);
                }
            }
            default -> {
            }
        }
    }

    private void sendFile(int site) {
        if (sites[site].queue.isEmpty()) {
            return;
        }
        int[] file = sites[site].queue.get(0).file.stream().mapToInt(b -> b).toArray();
        for (int i = 0; i < file.length; i += 30) {
            send(site, Packets.part(java.util.Arrays.copyOfRange(file, i, Math.min(file.length, i + 30))));
        }
    }

    private void offered(int site, int number, int length) {
        Session session = sites[site].session;
        if (length > 100) {
            return;
        }
        if (sites[site].executed.stream().anyMatch(e -> e.number == number)) {
            send(site, 'N');
            return;
        }
        send(site, 'Y');
        session.takesNumber = number;
        session.takesLength = length;
        session.took = new ArrayList<>();
        executeWhenWhole(site);
    }

    private void partComes(int site, int[] message) {
        Session session = sites[site].session;
        if (session.takesNumber == -1) {
            return;
        }
        for (int i = 1; i < message.length; i++) {
            session.took.add(message[i]);
        }
        executeWhenWhole(site);
    }

    private void executeWhenWhole(int site) {
        Session session = sites[site].session;
        if (session.took.size() >= session.takesLength) {
            List<Integer> whole = new ArrayList<>(session.took.subList(0, session.takesLength));
            sites[site].executed.add(new Job(session.takesNumber, whole));
            session.takesNumber = -1;
            send(site, 'C');
        }
    }
}
