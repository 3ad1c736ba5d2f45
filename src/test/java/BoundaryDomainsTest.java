/**
 * The boundary cases of the promises 1 to 5: a new object, domain, home, silent, host. Each test tells its
 * sentence.
 */
public final class BoundaryDomainsTest {
    public static void main(String[] args) {
        noDomains();
        noMail();
        timeIsZero();
        reportIsEmpty();
        noSuchParent();
        twentyDomains();
        aSuffixIsItsOwnHome();
        homeIsBelowASuffix();
        noHome();
        silentOrNot();
        noneSuchToSilence();
        noSuchHost();
        anyAddress();
        twoAddresses();
        twoExchangers();
        eachDomainHasItsOwn();
        Due.end();
    }

    private static MailArbiter with(int domains) {
        MailArbiter x = new MailArbiter();
        Given.domains(x, domains);
        return x;
    }

    /** Promise 1: No domains. */
    private static void noDomains() {
        MailArbiter x = new MailArbiter();
        Due.is("home(0)", x.home(0), -1);
        Due.is("silent(0, true)", x.silent(0, true), false);
        Due.is("host(0, 0, 0)", x.host(0, 0, 0), -1);
        Due.is("rule(0, 0, 0, 0, 0)", x.rule(0, 0, 0, 0, 0), -1);
        Due.is("key(0, 0, 1)", x.key(0, 0, 1), false);
        Due.is("policy(0, 0, 0, 0, 0)", x.policy(0, 0, 0, 0, 0), false);
        Due.is("policy(0, -1, 0, 0, 0)", x.policy(0, -1, 0, 0, 0), false);
        Due.is("mail(0, 0, 0)", x.mail(0, 0, 0), false);
        Due.is("domain(0, false)", x.domain(0, false), -1);
        Due.is("the first has the number 0", x.domain(-1, false), 0);
    }

    /** Promise 1: no mail. (Promises 10 to 16 and 18 to 20: NONE, or false, when there is no mail.) */
    private static void noMail() {
        Refused.none("header(0)", BoundaryDomainsTest::keyedDomain, x -> x.header(0));
        Refused.none("type to the body", BoundaryDomainsTest::keyedDomain, x -> x.type(-1, 65, 1));
        Refused.none("type to header 0", BoundaryDomainsTest::keyedDomain, x -> x.type(0, 65, 1));
        Refused.none("length of the body", BoundaryDomainsTest::keyedDomain, x -> x.length(-1, false));
        Refused.none("relaxed length of the body", BoundaryDomainsTest::keyedDomain, x -> x.length(-1, true));
        Refused.none("length of header 0", BoundaryDomainsTest::keyedDomain, x -> x.length(0, false));
        Refused.none("sign", BoundaryDomainsTest::keyedDomain, x -> x.sign(0, 0, 0, -1, -1));
        Refused.not("spoil(0, 0)", BoundaryDomainsTest::keyedDomain, x -> x.spoil(0, 0));
        Refused.none("signature(0)", BoundaryDomainsTest::keyedDomain, x -> x.signature(0));
        Refused.none("sender()", BoundaryDomainsTest::keyedDomain, x -> x.sender());
        Refused.none("chain()", BoundaryDomainsTest::keyedDomain, x -> x.chain());
        Refused.none("link", BoundaryDomainsTest::keyedDomain, x -> x.link(0, 0));
        Refused.none("judge(0)", BoundaryDomainsTest::keyedDomain, x -> x.judge(0));
        Refused.none("judge(99)", BoundaryDomainsTest::keyedDomain, x -> x.judge(99));
        Refused.none("judge(100)", BoundaryDomainsTest::keyedDomain, x -> x.judge(100));
    }

    private static void keyedDomain(MailArbiter x) {
        x.domain(-1, false);
        x.key(0, 0, 5);
        x.rule(0, 0, 0, 0, 0);
    }

    /** Promise 1: the time is 0. */
    private static void timeIsZero() {
        MailArbiter x = new MailArbiter();
        Due.is("tick(0)", x.tick(0), 0);
        MailArbiter y = new MailArbiter();
        Due.is("tick(1)", y.tick(1), 1);
        MailArbiter z = new MailArbiter();
        Due.is("tick(1000)", z.tick(1000), 1000);
    }

    /** Promise 1: the report is empty. */
    private static void reportIsEmpty() {
        MailArbiter x = new MailArbiter();
        for (int k = 0; k < 12; k++) {
            for (int what = 0; what < 5; what++) {
                Due.is("row(" + k + ", " + what + ")", x.row(k, what), -1);
            }
        }
    }

    /** Promise 2: NONE when there is no such parent. (parent -1: without one) */
    private static void noSuchParent() {
        Refused.noneEver("parent -2", x -> x.domain(-2, false));
        Refused.noneEver("parent -2, a suffix", x -> x.domain(-2, true));
        Refused.noneEver("parent 20", x -> x.domain(20, false));
        Refused.noneEver("parent 20, a suffix", x -> x.domain(20, true));
        for (int far : Given.FAR) {
            Refused.noneEver("parent " + far, x -> x.domain(far, true));
        }
        Refused.none("parent 0 of the first", Given::nothing, x -> x.domain(0, false));
        Refused.none("parent 5 of the domain 5", Given::someOfAll, x -> x.domain(5, false));
        MailArbiter x = new MailArbiter();
        Due.is("the first", x.domain(-1, false), 0);
        for (int i = 1; i < 20; i++) {
            Due.is("domain " + i + " as its own parent", x.domain(i, false), -1);
            Due.is("the latest is a parent of " + i, x.domain(i - 1, false), i);
        }
        MailArbiter y = with(5);
        Due.is("parent 0 is one", y.domain(0, false), 5);
        Due.is("parent -1 is none, but may be told", y.domain(-1, false), 6);
    }

    /** Promise 2: FULL when there are 20. (DOMAINS are 0 .. 19) */
    private static void twentyDomains() {
        MailArbiter x = with(19);
        Due.is("there is no domain 19 yet", x.home(19), -1);
        Due.is("the twentieth", x.domain(0, true), 19);
        Due.is("domain 19 is its own home", x.home(19), 19);
        Due.is("the last can be sender and author", x.mail(19, 19, 0), true);
        Refused.full("a 21st", Given::fullOfAll, y -> y.domain(-1, false));
        Refused.full("a 21st that is a suffix", Given::fullOfAll, y -> y.domain(-1, true));
        Refused.full("a 21st below the first", Given::fullOfAll, y -> y.domain(0, false));
        Refused.full("a 21st below the last", Given::fullOfAll, y -> y.domain(19, true));
    }

    /**
     * Terms: A domain without a parent, and one that was told so, is a SUFFIX. The HOME is itself, if it is
     * a suffix.
     */
    private static void aSuffixIsItsOwnHome() {
        MailArbiter x = new MailArbiter();
        x.domain(-1, false);
        x.domain(-1, true);
        x.domain(0, true);
        x.domain(2, true);
        x.domain(0, false);
        x.domain(4, false);
        x.domain(5, true);
        Due.is("without a parent, not told so", x.home(0), 0);
        Due.is("without a parent, told so", x.home(1), 1);
        Due.is("told so, below a suffix", x.home(2), 2);
        Due.is("told so, below one told so", x.home(3), 3);
        Due.is("told so, below one that is none", x.home(6), 6);
    }

    /** Terms: otherwise the first one, going from it to its parent and so on, whose parent is a suffix. */
    private static void homeIsBelowASuffix() {
        MailArbiter x = new MailArbiter();
        x.domain(-1, false);
        for (int i = 1; i < 20; i++) {
            x.domain(i - 1, i == 10);
        }
        for (int d = 1; d < 10; d++) {
            Due.is("below the suffix 0: " + d, x.home(d), 1);
        }
        Due.is("the suffix within", x.home(10), 10);
        for (int d = 11; d < 20; d++) {
            Due.is("below the suffix 10: " + d, x.home(d), 11);
        }
    }

    /** Promise 3: NONE when there is none such. */
    private static void noHome() {
        Refused.noneEver("home(-1)", x -> x.home(-1));
        Refused.noneEver("home(20)", x -> x.home(20));
        for (int far : Given.FAR) {
            Refused.noneEver("home(" + far + ")", x -> x.home(far));
        }
        Refused.none("home(0)", Given::nothing, x -> x.home(0));
        Refused.none("home(5)", Given::someOfAll, x -> x.home(5));
        Due.is("home of the last", with(5).home(4), 4);
        Due.is("home of the first", with(5).home(0), 0);
        Due.is("home of the only one", with(1).home(0), 0);
    }

    /** Promise 4: A domain becomes silent, or no longer: true. */
    private static void silentOrNot() {
        MailArbiter x = with(20);
        for (int d = 0; d < 20; d += 19) {
            x.mail(d, d, 0);
            Due.is("no longer, though it was not: " + d, x.silent(d, false), true);
            Due.is("not silent: " + d, x.sender(), 0);
            Due.is("becomes: " + d, x.silent(d, true), true);
            Due.is("silent: " + d, x.sender(), 5);
            Due.is("becomes what it is: " + d, x.silent(d, true), true);
            Due.is("still silent: " + d, x.sender(), 5);
            Due.is("no longer: " + d, x.silent(d, false), true);
            Due.is("at last: " + d, x.sender(), 0);
        }
        x.silent(0, true);
        x.mail(1, 1, 0);
        Due.is("those below a silent one are not silent", x.sender(), 0);
        Due.is("a silent one has its home", x.home(0), 0);
        x.rule(0, 3, 0, 0, 0);
        x.silent(0, false);
        x.mail(0, 0, 0);
        Due.is("what it published meanwhile is there", x.sender(), 4);
    }

    /** Promise 4: false when there is none such. */
    private static void noneSuchToSilence() {
        for (boolean is : new boolean[] {true, false}) {
            Refused.notEver("silent(-1)", x -> x.silent(-1, is));
            Refused.notEver("silent(20)", x -> x.silent(20, is));
            for (int far : Given.FAR) {
                Refused.notEver("silent(" + far + ")", x -> x.silent(far, is));
            }
            Refused.not("silent(0)", Given::nothing, x -> x.silent(0, is));
            Refused.not("silent(5)", Given::someOfAll, x -> x.silent(5, is));
        }
        MailArbiter x = new MailArbiter();
        x.silent(0, true);
        x.domain(-1, false);
        x.mail(0, 0, 0);
        Due.is("a domain made later is not silent", x.sender(), 0);
    }

    /** Promise 5: NONE when there is no such domain, kind, or domain v for an exchanger. */
    private static void noSuchHost() {
        for (int kind = 0; kind < 2; kind++) {
            int k = kind;
            Refused.noneEver("domain -1, kind " + k, x -> x.host(-1, k, 0));
            Refused.noneEver("domain 20, kind " + k, x -> x.host(20, k, 0));
            Refused.none("domain 0, kind " + k, Given::nothing, x -> x.host(0, k, 0));
            Refused.none("domain 5, kind " + k, Given::someOfAll, x -> x.host(5, k, 0));
        }
        Refused.noneEver("kind -1", x -> x.host(1, -1, 1));
        Refused.noneEver("kind 2", x -> x.host(1, 2, 1));
        Refused.noneEver("exchanger -1", x -> x.host(1, 1, -1));
        Refused.noneEver("exchanger 20", x -> x.host(1, 1, 20));
        Refused.none("exchanger 5", Given::someOfAll, x -> x.host(1, 1, 5));
        for (int far : Given.FAR) {
            Refused.noneEver("domain " + far, x -> x.host(far, 0, 1));
            Refused.noneEver("kind " + far, x -> x.host(1, far, 1));
            Refused.noneEver("exchanger " + far, x -> x.host(1, 1, far));
        }
        Due.is("the first domain", with(5).host(0, 0, 1), 1);
        Due.is("the last domain", with(5).host(4, 0, 1), 1);
        Due.is("the first as exchanger", with(5).host(2, 1, 0), 1);
        Due.is("the last as exchanger", with(5).host(2, 1, 4), 1);
        Due.is("itself as exchanger", with(5).host(2, 1, 2), 1);
    }

    /** Terms: ADDRESSES (ints): v has no range for an address. */
    private static void anyAddress() {
        int[] addresses = {-2, -1, 0, 20, Integer.MIN_VALUE, Integer.MAX_VALUE};
        for (int address : addresses) {
            MailArbiter x = with(1);
            Due.is("address " + address, x.host(0, 0, address), 1);
            x.rule(0, 0, 2, 0, 32);
            x.mail(0, 0, address);
            Due.is("it agrees with itself", x.sender(), 1);
            x.mail(0, 0, address ^ 1);
            Due.is("and not with another", x.sender(), 4);
        }
    }

    /** Promise 5: how many it has then; FULL when it has 2 (addresses). */
    private static void twoAddresses() {
        MailArbiter x = with(2);
        x.rule(1, 0, 2, 1, 32);
        Due.is("one", x.host(1, 0, 30), 1);
        Due.is("two", x.host(1, 0, 31), 2);
        Due.is("three", x.host(1, 0, 32), -2);
        Due.is("three, one it has", x.host(1, 0, 30), -2);
        int[] dues = {4, 1, 1, 4};
        for (int i = 0; i < dues.length; i++) {
            x.mail(1, 1, 29 + i);
            Due.is("address " + (29 + i), x.sender(), dues[i]);
        }
        Refused.full("a third address", Given::fullOfAll, y -> y.host(1, 0, 0x0A000001));
        MailArbiter same = with(1);
        same.host(0, 0, 4);
        Due.is("the same once more is one more", same.host(0, 0, 4), 2);
        Due.is("and fills it", same.host(0, 0, 5), -2);
    }

    /** Promise 5: how many it has then; FULL when it has 2 (exchangers). */
    private static void twoExchangers() {
        MailArbiter x = with(5);
        x.rule(1, 0, 3, 1, 32);
        for (int d = 2; d < 5; d++) {
            x.host(d, 0, 30 + d);
        }
        Due.is("one", x.host(1, 1, 2), 1);
        Due.is("two", x.host(1, 1, 3), 2);
        Due.is("three", x.host(1, 1, 4), -2);
        int[] dues = {1, 1, 4};
        for (int i = 0; i < dues.length; i++) {
            x.mail(1, 1, 32 + i);
            Due.is("address of " + (2 + i), x.sender(), dues[i]);
        }
        Refused.full("a third exchanger", Given::fullOfAll, y -> y.host(1, 1, 4));
    }

    /** Terms: at most 2 ADDRESSES and 2 EXCHANGERS: neither takes the other's room, nor another domain's. */
    private static void eachDomainHasItsOwn() {
        MailArbiter x = with(20);
        for (int d = 0; d < 20; d++) {
            Due.is("address 1 of " + d, x.host(d, 0, d), 1);
            Due.is("exchanger 1 of " + d, x.host(d, 1, d), 1);
            Due.is("address 2 of " + d, x.host(d, 0, d), 2);
            Due.is("exchanger 2 of " + d, x.host(d, 1, d), 2);
            Due.is("address 3 of " + d, x.host(d, 0, d), -2);
            Due.is("exchanger 3 of " + d, x.host(d, 1, d), -2);
        }
    }
}
