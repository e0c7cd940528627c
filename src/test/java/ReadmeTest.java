import java.io.IOException;
import java.nio.file.Files;
import java.nio.file.Path;

/** README.md tells a user what is so. */
public final class ReadmeTest {
    private static String readme;

    public static void main(String[] args) throws IOException {
        readme = Files.readString(Path.of("README.md"));
        example();
        afterCrash();
        Check.end();
    }

    /** A line of the example, with the answer that stands there behind it. */
    private static void line(String call, Object answer) {
        boolean stands = readme.lines().anyMatch(line -> line.matches("\\Q" + call + "\\E; +// " + answer + "(:.*)?"));
        Check.due("README.md has " + call + "; // " + answer, stands, true);
    }

    private static void example() {
        CountedLink link = new CountedLink();
        line("link.put(72)", link.put(72));
        line("link.put(105)", link.put(105));
        int job = link.queue(0);
        line("int job = link.queue(0)", job);
        line("link.call(0)", link.call(0));
        line("link.deliver(0)", link.deliver(0));
        line("link.deliver(1)", link.deliver(1));
        line("link.alter(0, 7, 1)", link.alter(0, 7, 1));
        line("link.deliver(0)", link.deliver(0));
        line("link.settle(200)", link.settle(200));
        line("link.told(0, 2)", link.told(0, 2));
        line("link.times(0, job)", link.times(0, job));
        line("link.file(1, 0, 1)", link.file(1, 0, 1));
    }

    /** A crash at every packet, and at either site: the way that README.md tells leads to each job executed once. */
    private static void afterCrash() {
        for (int site = 0; site < 2; site++) {
            for (int packets = 1; packets <= 40; packets++) {
                CountedLink link = new CountedLink();
                Links.addJob(link, 0, 100);
                Links.addJob(link, 1, 31);
                link.call(0);
                link.settle(packets);
                link.crash(site);
                for (int i = 0; i < 41 && link.told(0, 2) + link.told(1, 2) != 0; i++) {
                    link.tick();
                    link.settle(200);
                }
                String when = "site " + site + " crashed behind " + packets + " packets, ";
                Check.due(when + "call(0)", link.call(0), true);
                link.settle(200);
                for (int of = 0; of < 2; of++) {
                    Check.due(when + "times(" + of + ", 0)", link.times(of, 0), 1);
                    Check.due(when + "queue of " + of, link.told(of, 0), 0);
                    Check.due(when + "executed at " + of, link.told(of, 1), 1);
                }
            }
        }
    }
}
