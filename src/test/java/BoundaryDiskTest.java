/** Promises 1 to 3 and 13 to 17: the boundary cases of what is put, queued and executed, and of asking for it. */
public final class BoundaryDiskTest {
    public static void main(String[] args) {
        newObject();
        newObjectBesideAUsedOne();
        putTakes100();
        putTakesBytes();
        queueOfNoSuchSite();
        queueTakes30();
        queueCountsWhatLeft();
        queueEmptiesTheNextFile();
        filesOf0To100Bytes();
        told();
        queued();
        executed();
        file();
        times();
        Check.end();
    }

    private static void newObject() {
        Check.sentence("Empty disks, an empty line.");
        dueEmpty(new CountedLink());
        CountedLink x = new CountedLink();
        for (int site = 0; site < 2; site++) {
            Check.due("deliver of a new one", x.deliver(site), -1);
            Check.due("lose of a new one", x.lose(site), false);
            Check.due("alter of a new one", x.alter(site, 0, 1), false);
        }
        Check.due("settle of a new one", x.settle(200), 0);
        Check.due("tick of a new one", x.tick(), 0);
        dueEmpty(x);
        Check.due("the first job of site 1", x.queue(1), 0);
        Check.due("the first job of site 0", x.queue(0), 0);
        Check.due("queued then", x.queued(1, 0), 0);
        Check.due("times then", x.times(1, 0), 0);
        x.call(0);
        Check.due("waiting then", x.waiting(0), 1);
    }

    private static void dueEmpty(CountedLink x) {
        for (int site = 0; site < 2; site++) {
            Links.told(x, "new", site, 0, 0, 0, 0, 0, 0);
            Check.due("waiting of a new one", x.waiting(site), 0);
            Check.due("look of a new one", x.look(site, 0, 0), -1);
            Check.due("queued of a new one", x.queued(site, 0), -1);
            Check.due("executed of a new one", x.executed(site, 0), -1);
            Check.due("file of a new one", x.file(site, 0, 0), -1);
            Check.due("times of a new one", x.times(site, 0), -1);
        }
    }

    private static void newObjectBesideAUsedOne() {
        Check.sentence("Empty disks, an empty line.");
        CountedLink used = Links.settled(2, 1);
        used.call(1);
        used.put(7);
        CountedLink x = new CountedLink();
        dueEmpty(x);
        Check.due("put of a new one", x.put(7), 1);
    }

    private static void putTakes100() {
        Check.sentence("NONE when it has 100, or b is not 0 .. 255.");
        CountedLink x = new CountedLink();
        for (int i = 1; i <= 100; i++) {
            Check.due("put " + i, x.put(i), i);
        }
        Check.due("put 101", x.put(101), -1);
        Check.due("put 102", x.put(0), -1);
        x.queue(0);
        Check.due("put behind queue", x.put(1), 1);
        x.call(0);
        x.settle(200);
        Check.due("byte 99", x.file(1, 0, 99), 100);
        Check.due("byte 100", x.file(1, 0, 100), -1);
    }

    private static void putTakesBytes() {
        Check.sentence("NONE when it has 100, or b is not 0 .. 255.");
        CountedLink x = new CountedLink();
        Check.due("put(-1)", x.put(-1), -1);
        Check.due("put(0)", x.put(0), 1);
        Check.due("put(256)", x.put(256), -1);
        Check.due("put(255)", x.put(255), 2);
        Check.due("put of the least int", x.put(Integer.MIN_VALUE), -1);
        Check.due("put of the greatest int", x.put(Integer.MAX_VALUE), -1);
        Check.due("put(128)", x.put(128), 3);
        x.queue(1);
        x.call(1);
        x.settle(200);
        int[] got = {x.file(0, 0, 0), x.file(0, 0, 1), x.file(0, 0, 2), x.file(0, 0, 3)};
        Check.due("the file", got, new int[] {0, 255, 128, -1});
    }

    private static void queueOfNoSuchSite() {
        Check.sentence("NONE, changing nothing, when there is no such site, or it has had 30.");
        CountedLink x = new CountedLink();
        x.put(5);
        for (int site : Links.NO_SITES) {
            Check.due("queue(" + site + ")", x.queue(site), -1);
            Check.due("jobs of 0 and 1", x.told(0, 0) + x.told(1, 0), 0);
        }
        Check.due("the next file stays", x.put(6), 2);
        Check.due("queue(0)", x.queue(0), 0);
        Check.due("queue(1)", x.queue(1), 0);
        x.call(0);
        x.settle(200);
        Check.due("byte 1", x.file(1, 0, 1), 6);
        Check.due("end", x.file(1, 0, 2), -1);
    }

    private static void queueTakes30() {
        Check.sentence("30 at most in all; each with a FILE of 0 to 100 bytes");
        for (int site = 0; site < 2; site++) {
            CountedLink x = new CountedLink();
            for (int i = 0; i < 30; i++) {
                Check.due("queue " + i, x.queue(site), i);
            }
            x.put(9);
            Check.due("queue 30", x.queue(site), -1);
            Check.due("jobs", x.told(site, 0), 30);
            Check.due("job 29", x.queued(site, 29), 29);
            Check.due("job 30", x.queued(site, 30), -1);
            Check.due("times of job 29", x.times(site, 29), 0);
            Check.due("times of job 30", x.times(site, 30), -1);
            Check.due("the next file stays", x.put(8), 2);
            Check.due("the other site has had none", x.queue(1 - site), 0);
            x.call(1 - site);
            x.settle(12);
            Check.due("its file", x.file(site, 0, 0), 9);
            Check.due("its second byte", x.file(site, 0, 1), 8);
            Check.due("its end", x.file(site, 0, 2), -1);
        }
    }

    private static void queueCountsWhatLeft() {
        Check.sentence("NONE, changing nothing, when there is no such site, or it has had 30.");
        CountedLink x = new CountedLink();
        for (int i = 0; i < 29; i++) {
            x.queue(0);
        }
        x.call(0);
        x.settle(200);
        x.settle(200);
        Check.due("none left", x.told(0, 0), 0);
        Check.due("the 30th", x.queue(0), 29);
        Check.due("the 31st", x.queue(0), -1);
        Check.due("the 30th alone", x.told(0, 0), 1);
        x.call(0);
        x.settle(200);
        Check.due("all executed", x.told(1, 1), 30);
        Check.due("the 31st, when none is left", x.queue(0), -1);
        Check.due("times(0, 29)", x.times(0, 29), 1);
        Check.due("times(0, 30)", x.times(0, 30), -1);
    }

    private static void queueEmptiesTheNextFile() {
        Check.sentence("(and the next file is empty)");
        CountedLink x = new CountedLink();
        Links.addJob(x, 0, 100);
        Check.due("a job at once behind it", x.queue(0), 1);
        Check.due("put behind it", x.put(3), 1);
        Check.due("a job of one byte", x.queue(0), 2);
        x.call(0);
        x.settle(200);
        Check.due("executed", x.told(1, 1), 3);
        Check.due("the first one's last byte", x.file(1, 0, 99), Links.byteAt(99));
        Check.due("the second one is empty", x.file(1, 1, 0), -1);
        Check.due("the third one's byte", x.file(1, 2, 0), 3);
        Check.due("the third one's end", x.file(1, 2, 1), -1);
    }

    private static void filesOf0To100Bytes() {
        Check.sentence("30 at most in all; each with a FILE of 0 to 100 bytes");
        for (int site = 0; site < 2; site++) {
            for (int length : new int[] {0, 1, 99, 100}) {
                CountedLink x = new CountedLink();
                Links.addJob(x, site, length);
                x.call(0);
                x.settle(200);
                Check.due("executed", x.executed(1 - site, 0), 0);
                for (int i = 0; i <= length; i++) {
                    int wanted = i < length ? Links.byteAt(i) : -1;
                    Check.due("byte " + i + " of " + length, x.file(1 - site, 0, i), wanted);
                }
            }
        }
    }

    private static void told() {
        Check.sentence("NONE when there is none such, or for others.");
        Forger forger = Forger.busy(100, 0, 0, 0);
        CountedLink x = forger.x;
        forger.message(0, 'Y');
        forger.message(0, 'Y');
        Links.told(x, "all in use", 0, 4, 0, 2, 3, 8, 1);
        Links.told(x, "all in use", 1, 0, 1, 3, 2, 0, 0);
        for (int site = 0; site < 2; site++) {
            for (int what : new int[] {-1, 6, 7, Integer.MIN_VALUE, Integer.MAX_VALUE}) {
                Check.due("told(" + site + ", " + what + ")", x.told(site, what), -1);
            }
        }
        for (int site : Links.NO_SITES) {
            for (int what = -1; what <= 6; what++) {
                Check.due("told(" + site + ", " + what + ")", x.told(site, what), -1);
            }
        }
    }

    private static void queued() {
        Check.sentence("The number of the k-th job in a site's queue; NONE when there is none.");
        Forger forger = Forger.busy(1, 1, 1);
        CountedLink x = forger.x;
        for (int left = 3; left >= 1; left--) {
            for (int k = 0; k < left; k++) {
                Check.due("queued(0, " + k + ") of " + left, x.queued(0, k), 5 - left + k);
            }
            for (int k : new int[] {-1, left, 30, Integer.MIN_VALUE, Integer.MAX_VALUE}) {
                Check.due("queued(0, " + k + ") of " + left, x.queued(0, k), -1);
            }
            forger.message(0, 'N');
        }
        Check.due("queued(0, 0) of 0", x.queued(0, 0), -1);
        Check.due("queued(1, 0)", x.queued(1, 0), -1);
        x.queue(1);
        for (int site : Links.NO_SITES) {
            Check.due("queued(" + site + ", 0)", x.queued(site, 0), -1);
        }
        Check.due("queued(1, 0) then", x.queued(1, 0), 0);
    }

    private static void executed() {
        Check.sentence("The number of the k-th job that a site has executed; NONE when there is none.");
        CountedLink x = Links.settled(3, 1);
        for (int site = 0; site < 2; site++) {
            int count = site == 0 ? 1 : 3;
            for (int k = 0; k < count; k++) {
                Check.due("executed(" + site + ", " + k + ")", x.executed(site, k), k);
            }
            for (int k : new int[] {-1, count, 30, 256, Integer.MIN_VALUE, Integer.MAX_VALUE}) {
                Check.due("executed(" + site + ", " + k + ")", x.executed(site, k), -1);
            }
        }
        for (int site : Links.NO_SITES) {
            Check.due("executed(" + site + ", 0)", x.executed(site, 0), -1);
        }
    }

    private static void file() {
        Check.sentence("Byte i of the file with which it was; NONE when there is none.");
        CountedLink x = new CountedLink();
        Links.addJob(x, 0, 2);
        Links.addJob(x, 0, 0);
        Links.addJob(x, 0, 100);
        x.call(0);
        x.settle(200);
        for (int k = 0; k < 3; k++) {
            int length = new int[] {2, 0, 100}[k];
            if (length > 0) {
                Check.due("the first byte", x.file(1, k, 0), Links.byteAt(0));
                Check.due("the last byte", x.file(1, k, length - 1), Links.byteAt(length - 1));
            }
            for (int i : new int[] {-1, length, 101, Integer.MIN_VALUE, Integer.MAX_VALUE}) {
                Check.due("file(1, " + k + ", " + i + ")", x.file(1, k, i), -1);
            }
        }
        for (int k : new int[] {-1, 3, 256, Integer.MIN_VALUE, Integer.MAX_VALUE}) {
            Check.due("file(1, " + k + ", 0)", x.file(1, k, 0), -1);
        }
        Check.due("file(0, 0, 0)", x.file(0, 0, 0), -1);
        for (int site : Links.NO_SITES) {
            Check.due("file(" + site + ", 0, 0)", x.file(site, 0, 0), -1);
        }
    }

    private static void times() {
        Check.sentence("How often the other site executed a job of a site (0 or 1); NONE when there is no such job.");
        Forger forger = Forger.busy(1, 1);
        CountedLink x = forger.x;
        // Job 0 was executed and left, job 1 left as if it had been, jobs 2 and 3 are in the queue.
        int[] wanted = {-1, 1, 0, 0, 0, -1};
        for (int job = -1; job <= 4; job++) {
            Check.due("times(0, " + job + ")", x.times(0, job), wanted[job + 1]);
        }
        Check.due("times of the least int", x.times(0, Integer.MIN_VALUE), -1);
        Check.due("times of the greatest int", x.times(0, Integer.MAX_VALUE), -1);
        Check.due("site 1 has had none", x.times(1, 0), -1);
        x.queue(1);
        Check.due("site 0 executed none", x.times(1, 0), 0);
        Check.due("site 1 has had one", x.times(1, 1), -1);
        for (int site : Links.NO_SITES) {
            Check.due("times(" + site + ", 0)", x.times(site, 0), -1);
        }
        // The same job offered once more is not executed once more.
        forger.message(1, Packets.offer(0, 0));
        Check.due("times(0, 0) then", x.times(0, 0), 1);
        Check.due("executed then", x.told(1, 1), 1);
    }
}
