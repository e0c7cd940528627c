/** Promises 1, 2, 3, 13 to 17: what stands on the disks, and wrong arguments. */
public final class DiskTest {
    public static void main(String[] args) {
        newObject();
        putCounts();
        putRefuses();
        queueNumbers();
        queueRefuses();
        noSuchSites();
        whatWasExecuted();
        Check.end();
    }

    private static void newObject() {
        CountedLink x = new CountedLink();
        for (int site = 0; site < 2; site++) {
            Links.told(x, "new", site, 0, 0, 0, 0, 0, 0);
            Links.lies(x, "new", site);
            Check.due("new queued", x.queued(site, 0), -1);
            Check.due("new executed", x.executed(site, 0), -1);
            Check.due("new file", x.file(site, 0, 0), -1);
            Check.due("new times", x.times(site, 0), -1);
        }
        Check.due("first put", x.put(0), 1);
    }

    private static void putCounts() {
        CountedLink x = new CountedLink();
        for (int i = 1; i <= 100; i++) {
            Check.due("put", x.put(i % 2 == 0 ? 0 : 255), i);
        }
        Check.due("put 101", x.put(1), -1);
        Check.due("put 102", x.put(1), -1);
        Check.due("queue of 100", x.queue(1), 0);
        Check.due("put behind queue", x.put(1), 1);
    }

    private static void putRefuses() {
        CountedLink x = new CountedLink();
        for (int b : new int[] {-1, 256, Integer.MIN_VALUE, Integer.MAX_VALUE}) {
            Check.due("put(" + b + ")", x.put(b), -1);
        }
        Check.due("put behind refused ones", x.put(9), 1);
    }

    private static void queueNumbers() {
        CountedLink x = new CountedLink();
        for (int i = 0; i < 30; i++) {
            Check.due("queue(0)", x.queue(0), i);
            Check.due("jobs", x.told(0, 0), i + 1);
            Check.due("queued", x.queued(0, i), i);
            Check.due("queued behind", x.queued(0, i + 1), -1);
        }
        Check.due("queue(1)", x.queue(1), 0);
        Check.due("queued(0, -1)", x.queued(0, -1), -1);
        Check.due("times(0, 29)", x.times(0, 29), 0);
        Check.due("times(0, 30)", x.times(0, 30), -1);
        Check.due("times(0, -1)", x.times(0, -1), -1);
        Check.due("times(1, 1)", x.times(1, 1), -1);
    }

    private static void queueRefuses() {
        CountedLink x = new CountedLink();
        x.put(1);
        x.put(2);
        for (int site : Links.NO_SITES) {
            Check.due("queue(" + site + ")", x.queue(site), -1);
        }
        Check.due("the next file stays", x.put(3), 3);
        for (int i = 0; i < 30; i++) {
            x.queue(0);
        }
        x.put(4);
        Check.due("queue 31", x.queue(0), -1);
        Check.due("jobs", x.told(0, 0), 30);
        Check.due("the next file stays then, too", x.put(5), 2);
        x.call(0);
        x.settle(200);
        x.settle(200);
        Check.due("all left", x.told(0, 0), 0);
        Check.due("it has had 30 all the same", x.queue(0), -1);
        Check.due("first file", x.file(1, 0, 2), 3);
        Check.due("first file's end", x.file(1, 0, 3), -1);
        Check.due("second file is empty", x.file(1, 1, 0), -1);
        Check.due("the other site takes it", x.queue(1), 0);
    }

    private static void noSuchSites() {
        CountedLink x = Links.settled(2, 2);
        x.call(0);
        for (int site : Links.NO_SITES) {
            for (int what = -1; what <= 6; what++) {
                Check.due("told", x.told(site, what), -1);
            }
            Check.due("queued", x.queued(site, 0), -1);
            Check.due("executed", x.executed(site, 0), -1);
            Check.due("file", x.file(site, 0, 0), -1);
            Check.due("times", x.times(site, 0), -1);
        }
        for (int what : new int[] {-1, 6, 7, Integer.MIN_VALUE, Integer.MAX_VALUE}) {
            Check.due("told(0, " + what + ")", x.told(0, what), -1);
        }
    }

    private static void whatWasExecuted() {
        CountedLink x = Links.settled(3, 2);
        Links.told(x, "settled", 0, 0, 2, 0, 0, 0, 1);
        Links.told(x, "settled", 1, 0, 3, 0, 0, 0, 0);
        for (int site = 0; site < 2; site++) {
            int count = x.told(site, 1);
            for (int k = 0; k < count; k++) {
                int length = (site == 1 ? 10 : 40) + k;
                Check.due("executed", x.executed(site, k), k);
                Check.due("times", x.times(1 - site, k), 1);
                Check.due("file(-1)", x.file(site, k, -1), -1);
                for (int i = 0; i < length; i++) {
                    Check.due("file byte", x.file(site, k, i), Links.byteAt(i));
                }
                Check.due("file end", x.file(site, k, length), -1);
                Check.due("file far", x.file(site, k, Integer.MAX_VALUE), -1);
            }
            Check.due("executed behind", x.executed(site, count), -1);
            Check.due("executed(-1)", x.executed(site, -1), -1);
            Check.due("file behind", x.file(site, count, 0), -1);
            Check.due("file of -1", x.file(site, -1, 0), -1);
        }
    }
}
