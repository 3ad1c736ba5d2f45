/** Promises 2 to 5: domain, home, silent, host. */
public final class DomainsTest {
    public static void main(String[] args) {
        domainsAreNumbered();
        homes();
        silence();
        hosts();
        Due.end();
    }

    private static void domainsAreNumbered() {
        MailArbiter x = new MailArbiter();
        Due.is("a parent that is not there yet", x.domain(0, false), -1);
        Due.is("parent -2", x.domain(-2, false), -1);
        Due.is("the first", x.domain(-1, true), 0);
        Due.is("itself as parent", x.domain(1, false), -1);
        for (int i = 1; i < 20; i++) {
            Due.is("domain " + i, x.domain(i - 1, false), i);
        }
        Due.is("a 21st", x.domain(-1, false), -2);
        Due.is("a 21st with a parent", x.domain(19, false), -2);
        Due.is("a 21st without such a parent", x.domain(20, false), -1);
        Due.is("a 21st with parent -2", x.domain(-2, true), -1);
        Due.is("home of the last", x.home(19), 1);
        Due.is("home of no domain", x.home(20), -1);
    }

    private static void homes() {
        MailArbiter x = new MailArbiter();
        x.domain(-1, false);
        x.domain(0, true);
        x.domain(1, true);
        x.domain(2, false);
        x.domain(3, false);
        x.domain(4, false);
        x.domain(4, true);
        x.domain(6, false);
        x.domain(0, false);
        x.domain(-1, true);
        int[] due = {0, 1, 2, 3, 3, 3, 6, 7, 8, 9};
        for (int d = 0; d < due.length; d++) {
            Due.is("home(" + d + ")", x.home(d), due[d]);
        }
        Due.is("home(-1)", x.home(-1), -1);
        Due.is("home(10)", x.home(10), -1);
        Due.is("home of the lowest int", x.home(Integer.MIN_VALUE), -1);
        Due.is("home of the highest int", x.home(Integer.MAX_VALUE), -1);
    }

    private static void silence() {
        MailArbiter x = new MailArbiter();
        x.domain(-1, false);
        x.mail(0, 0, 0);
        Due.is("silent(-1)", x.silent(-1, true), false);
        Due.is("silent(1)", x.silent(1, true), false);
        Due.is("silent(0)", x.silent(0, true), true);
        Due.is("sender()", x.sender(), 5);
        Due.is("silent(0) again", x.silent(0, true), true);
        Due.is("sender() again", x.sender(), 5);
        Due.is("no longer silent(1)", x.silent(1, false), false);
        Due.is("no longer silent(0)", x.silent(0, false), true);
        Due.is("sender() at last", x.sender(), 0);
    }

    private static void hosts() {
        MailArbiter x = new MailArbiter();
        x.domain(-1, false);
        x.domain(0, false);
        Due.is("of no domain", x.host(2, 0, 1), -1);
        Due.is("of domain -1", x.host(-1, 0, 1), -1);
        Due.is("kind -1", x.host(0, -1, 1), -1);
        Due.is("kind 2", x.host(0, 2, 1), -1);
        Due.is("exchanger 2", x.host(0, 1, 2), -1);
        Due.is("exchanger -1", x.host(0, 1, -1), -1);
        Due.is("exchanger 1", x.host(0, 1, 1), 1);
        Due.is("address -1", x.host(0, 0, -1), 1);
        Due.is("the same address", x.host(0, 0, -1), 2);
        Due.is("a third address", x.host(0, 0, 7), -2);
        Due.is("itself as exchanger", x.host(0, 1, 0), 2);
        Due.is("a third exchanger", x.host(0, 1, 1), -2);
        Due.is("a third exchanger that is no domain", x.host(0, 1, 2), -1);
        Due.is("kind 2 of a full one", x.host(0, 2, 1), -1);
        Due.is("of the other domain", x.host(1, 0, 5), 1);
    }
}
