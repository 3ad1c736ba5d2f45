import java.util.ArrayList;
import java.util.List;

/** What later calls show of an object: runs of calls that together tell all of its state. */
final class Shown {
    interface Run {
        void of(MailArbiter x, Shown to);
    }

    // Each run is made on an object of its own, since most of them change what they ask about.
    static final List<Run> RUNS = List.of(Shown::mailAndReport, Shown::published, Shown::publishedAloud,
            Shown::policies, Shown::keys, Shown::lives, Shown::roomForDomains, Shown::roomForTexts);

    private static final int[] ADDRESSES = {7, 0x0A000001};
    private final List<Integer> answers = new ArrayList<>();

    static List<Integer> by(Run run, MailArbiter x) {
        Shown shown = new Shown();
        run.of(x, shown);
        return shown.answers;
    }

    private void add(int... more) {
        for (int answer : more) {
            answers.add(answer);
        }
    }

    private void add(boolean answer) {
        add(answer ? 1 : 0);
    }

    private void addCounted(MailArbiter x) {
        add(x.counted(0), x.counted(1));
    }

    private static void mailAndReport(MailArbiter x, Shown to) {
        to.addCounted(x);
        to.add(x.tick(0));
        for (int k = 0; k <= 12; k++) {
            to.add(x.row(k, 0), x.row(k, 1), x.row(k, 2), x.row(k, 3), x.row(k, 4));
        }
        for (int d = 0; d <= 20; d++) {
            to.add(x.home(d));
        }
        for (int k = -1; k <= 6; k++) {
            to.add(x.length(k, false), x.length(k, true), x.signature(k));
        }
        to.add(x.chain(), x.sender());
        to.addCounted(x);
        to.add(x.judge(0), x.judge(45), x.judge(99));
        for (int k = 0; k <= 12; k++) {
            to.add(x.row(k, 1), x.row(k, 4));
        }
    }

    private static void published(MailArbiter x, Shown to) {
        for (int d = 0; d < 20; d++) {
            for (int address : ADDRESSES) {
                to.add(x.mail(d, d, address));
                to.add(x.sender());
                to.addCounted(x);
                to.add(x.judge(45));
            }
        }
    }

    private static void publishedAloud(MailArbiter x, Shown to) {
        for (int d = 0; d < 20; d++) {
            to.add(x.silent(d, false));
        }
        published(x, to);
    }

    /** Domain 1 sends for each author: that shows what is below, the part, and what is strict. */
    private static void policies(MailArbiter x, Shown to) {
        x.silent(1, false);
        x.key(1, 0, 99);
        for (int author = 0; author < 5; author++) {
            x.mail(1, author, -1);
            to.add(x.judge(0), x.judge(39), x.judge(40), x.judge(49), x.judge(50), x.judge(99));
            x.mail(1, author, 7);
            to.add(x.judge(0));
            x.mail(1, author, -1);
            x.sign(1, 0, 0, -1, -1);
            to.add(x.judge(0));
        }
    }

    private static void keys(MailArbiter x, Shown to) {
        for (int d = 0; d < 20; d++) {
            for (int selector = 0; selector < 2; selector++) {
                x.mail(0, 0, 0);
                to.add(x.sign(d, selector, 0, -1, -1), x.link(d, selector));
            }
        }
    }

    private static void lives(MailArbiter x, Shown to) {
        for (int i = 0; i < 25; i++) {
            to.add(x.signature(0), x.signature(1), x.signature(2), x.tick(1));
        }
    }

    private static void roomForDomains(MailArbiter x, Shown to) {
        for (int i = 0; i < 21; i++) {
            to.add(x.domain(-1, false));
        }
        for (int d = 0; d < 5; d++) {
            for (int i = 0; i < 3; i++) {
                to.add(x.host(d, 0, 9), x.host(d, 1, 0));
            }
            for (int i = 0; i < 7; i++) {
                to.add(x.rule(d, 0, 0, 0, 0));
            }
        }
    }

    private static void roomForTexts(MailArbiter x, Shown to) {
        for (int i = 0; i < 4; i++) {
            to.add(x.sign(1, 0, 0, -1, -1), x.link(1, 0));
        }
        to.add(x.link(1, 0), x.chain());
        for (int i = 0; i < 7; i++) {
            to.add(x.header(0));
        }
        for (int i = 0; i < 25; i++) {
            to.add(x.type(0, 65, 1), x.type(5, 65, 1));
        }
        for (int i = 0; i < 91; i++) {
            to.add(x.type(-1, 65, 1));
        }
    }
}
