import java.util.Arrays;

/** The boundary cases of the promises 18 and 19: chain, link. Each test tells its sentence. */
public final class BoundaryChainTest {
    public static void main(String[] args) {
        noMail();
        noneWithoutLinks();
        noSuchDomain();
        noSuchSelector();
        noSuchKey();
        aBadChain();
        fourLinks();
        noneBeforeFull();
        silentLinks();
        withoutAKey();
        coversOfAll();
        coversAreTheDigest();
        theSignatureOfTheLast();
        neverExpiring();
        allNames();
        relaxedHeadersAndBody();
        noRoomOfSignatures();
        Due.end();
    }

    /** The domains 1 to 4 have keys under selector 0, and 4 under 1 too; the mail has a header and a body. */
    private static void given(MailArbiter x) {
        Given.domains(x, 6);
        for (int d = 1; d <= 4; d++) {
            x.key(d, 0, 10 + d);
        }
        x.key(4, 1, 24);
        x.mail(0, 0, 7);
        x.header(0);
        Due.type(x, 0, "a");
        Due.type(x, -1, "b");
    }

    private static MailArbiter withLinks(int count) {
        MailArbiter x = new MailArbiter();
        given(x);
        for (int i = 0; i < count; i++) {
            x.link(1 + i, 0);
        }
        return x;
    }

    private static void bad(MailArbiter x) {
        given(x);
        x.link(1, 0);
        x.key(1, 0, 0);
    }

    /** Promise 18: NONE when there is no mail. */
    private static void noMail() {
        Refused.none("chain() of a new object", Given::nothing, x -> x.chain());
        Refused.none("chain() with domains", x -> Given.domains(x, 20), x -> x.chain());
        Refused.none("link() of a new object", Given::nothing, x -> x.link(0, 0));
    }

    /** Terms: THE CHAIN IS none without links. */
    private static void noneWithoutLinks() {
        MailArbiter x = new MailArbiter();
        Given.anEmptyMail(x);
        Due.is("of an empty mail", x.chain(), 0);
        x.sign(0, 0, 255, -1, -1);
        x.silent(0, true);
        x.silent(1, true);
        Due.is("whatever else is so", x.chain(), 0);
        Due.is("good with one", withLinks(1).chain(), 1);
    }

    /** Promise 19: NONE when there is no such domain. */
    private static void noSuchDomain() {
        for (int selector = 0; selector < 2; selector++) {
            int s = selector;
            Refused.noneEver("domain -1", x -> x.link(-1, s));
            Refused.noneEver("domain 20", x -> x.link(20, s));
            Refused.none("domain 6", BoundaryChainTest::given, x -> x.link(6, s));
            for (int far : Given.FAR) {
                Refused.noneEver("domain " + far, x -> x.link(far, s));
            }
        }
        MailArbiter x = new MailArbiter();
        Given.domains(x, 20);
        x.mail(0, 0, 0);
        x.key(0, 0, 5);
        x.key(19, 1, 5);
        Due.is("the first", x.link(0, 0), 0);
        Due.is("the last", x.link(19, 1), 1);
        Due.is("good", x.chain(), 1);
    }

    /** Promise 19: NONE when there is no such selector. */
    private static void noSuchSelector() {
        Refused.noneEver("selector -1", x -> x.link(1, -1));
        Refused.noneEver("selector 2", x -> x.link(1, 2));
        for (int far : Given.FAR) {
            Refused.noneEver("selector " + far, x -> x.link(1, far));
        }
        Due.is("selector 0", withLinks(0).link(4, 0), 0);
        Due.is("selector 1", withLinks(0).link(4, 1), 0);
    }

    /** Promise 19: NONE when there is no such key. */
    private static void noSuchKey() {
        Refused.none("no key at all", BoundaryChainTest::given, x -> x.link(5, 0));
        Refused.none("none under selector 1", BoundaryChainTest::given, x -> x.link(1, 1));
        MailArbiter x = withLinks(0);
        x.key(4, 0, 0);
        Due.is("taken away", x.link(4, 0), -1);
        Due.is("the other is left", x.link(4, 1), 0);
        for (int key : new int[] {1, 1000000}) {
            MailArbiter y = withLinks(0);
            y.key(5, 1, key);
            Due.is("key " + key, y.link(5, 1), 0);
            Due.is("good", y.chain(), 1);
        }
    }

    /** Promise 19: NONE when the chain is bad. */
    private static void aBadChain() {
        Refused.none("after one link", BoundaryChainTest::bad, x -> x.link(2, 0));
        MailArbiter x = new MailArbiter();
        bad(x);
        Due.is("bad", x.chain(), 2);
        Due.is("refused", x.link(2, 0), -1);
        x.key(1, 0, 11);
        Due.is("good again", x.chain(), 1);
        Due.is("the next is the second", x.link(2, 0), 1);
        MailArbiter y = withLinks(3);
        Due.type(y, 0, "c");
        Due.is("after three links", y.link(4, 0), -1);
    }

    /** Promise 19: Answers the number of the link; FULL when there are 4. */
    private static void fourLinks() {
        MailArbiter x = withLinks(0);
        for (int i = 0; i < 4; i++) {
            Due.is("link " + i, x.link(1 + i, 0), i);
            Due.is("good", x.chain(), 1);
        }
        Due.is("link 4", x.link(4, 1), -2);
        Due.is("good still", x.chain(), 1);
        x.key(4, 1, 0);
        Due.is("that link is not there", x.chain(), 1);
        Refused.full("a fifth, selector 0", Given::fullOfAll, y -> y.link(1, 0));
        Refused.full("a fifth, selector 1", Given::fullOfAll, y -> y.link(1, 1));
        Refused.full("a fifth by another", Given::fullOfAll, y -> y.link(2, 0));
    }

    /** Promise 19: NONE when ...; FULL when there are 4: NONE is told first. */
    private static void noneBeforeFull() {
        Refused.none("no such domain", Given::fullOfAll, x -> x.link(20, 0));
        Refused.none("no such selector", Given::fullOfAll, x -> x.link(1, 2));
        Refused.none("no key", Given::fullOfAll, x -> x.link(2, 1));
        Refused.none("a bad chain of four", BoundaryChainTest::fourBad, x -> x.link(2, 0));
        MailArbiter x = withLinks(4);
        x.silent(4, true);
        Due.is("bad with four", x.link(1, 0), -1);
        x.silent(4, false);
        Due.is("good with four", x.link(1, 0), -2);
    }

    private static void fourBad(MailArbiter x) {
        Given.fullOfAll(x);
        x.key(1, 1, 13);
    }

    /** Terms: for each link, its domain is not silent. */
    private static void silentLinks() {
        for (int d = 0; d <= 5; d++) {
            MailArbiter x = withLinks(4);
            x.silent(d, true);
            Due.is("silent " + d, x.chain(), d >= 1 && d <= 4 ? 2 : 1);
            x.silent(d, false);
            Due.is("no longer silent " + d, x.chain(), 1);
        }
        MailArbiter y = withLinks(0);
        y.silent(1, true);
        Due.is("a silent domain may link", y.link(1, 0), 0);
        Due.is("its chain is bad", y.chain(), 2);
        y.silent(1, false);
        Due.is("and then good", y.chain(), 1);
    }

    /** Terms: for each link, its domain has a key. */
    private static void withoutAKey() {
        for (int d = 1; d <= 4; d++) {
            MailArbiter x = withLinks(4);
            x.key(d, 0, 0);
            Due.is("no key of " + d, x.chain(), 2);
            x.key(d, 1, 10 + d);
            Due.is("it under the other selector, of " + d, x.chain(), 2);
            x.key(d, 0, 10 + d);
            Due.is("the key again, of " + d, x.chain(), 1);
            x.key(d, 1, 0);
            Due.is("none under the other selector, of " + d, x.chain(), 1);
        }
    }

    /** Terms: and its cover is what would be made now, for each link. */
    private static void coversOfAll() {
        for (int d = 1; d <= 4; d++) {
            MailArbiter x = withLinks(4);
            x.key(d, 0, 11 + d);
            Due.is("the next key of " + d, x.chain(), 2);
            x.key(d, 0, 10 + d);
            Due.is("its key of " + d, x.chain(), 1);
        }
    }

    /**
     * Terms: a COVER, the digest of: the key; the domain, the selector, the state, and the seal of its signature;
     * and then the covers of all links before. Only a link that is not the last may change its key for one that
     * happens to give the same cover, so these keys were sought: with any other digest the chain would be bad.
     */
    private static void coversAreTheDigest() {
        int first = Digest.of(11, 1, 1, 0, sealOfLink(11, 1, 1));
        int second = Digest.of(12, 2, 0, 1, sealOfLink(12, 2, 0), first);
        sameCover(2934, 770671, 1, 1, 0);
        sameCover(2263, 687987, 2, 0, 1, first);
        sameCover(289, 347393, 3, 1, 1, first, second);
    }

    private static void sameCover(int key, int other, int d, int selector, int state, int... before) {
        int seal = sealOfLink(key, d, selector);
        String name = "link " + before.length;
        Due.is(name + ", the document's digest", coverOf(other, d, selector, state, seal, before),
                coverOf(key, d, selector, state, seal, before));
        MailArbiter x = withLinks(0);
        x.key(1, 1, 11);
        x.key(3, 1, 13);
        x.key(d, selector, key);
        for (int i = 0; i <= before.length; i++) {
            Due.is("link", x.link(1 + i, (1 + i) % 2), i);
        }
        x.link(4, 0);
        Due.is(name + ", good", x.chain(), 1);
        x.key(d, selector, other);
        Due.is(name + ", a key of the same cover", x.chain(), 1);
        x.key(d, selector, other + 1);
        Due.is(name + ", the next key", x.chain(), 2);
    }

    /** The seal of a link's signature over the header and the body of given(). */
    private static int sealOfLink(int key, int d, int selector) {
        return Digest.of(key, d, selector, 3, 255, -1, -1, Digest.of('b', 10), 0, 'a', 0);
    }

    private static int coverOf(int key, int d, int selector, int state, int seal, int[] before) {
        int[] values = Arrays.copyOf(new int[] {key, d, selector, state, seal}, 5 + before.length);
        System.arraycopy(before, 0, values, 5, before.length);
        return Digest.of(values);
    }

    /** Terms: and the signature of the last link checks as 1 (that of others need not). */
    private static void theSignatureOfTheLast() {
        for (int links = 1; links <= 4; links++) {
            MailArbiter x = withLinks(links);
            Due.type(x, -1, "c");
            Due.is("another body after " + links, x.chain(), 2);
            MailArbiter y = withLinks(links);
            y.header(1);
            Due.is("another header after " + links, y.chain(), 2);
        }
        MailArbiter z = withLinks(1);
        Due.type(z, -1, " ");
        Due.is("what is forgiven", z.chain(), 1);
        Due.is("a link after it", z.link(2, 0), 1);
        Due.is("good", z.chain(), 1);
    }

    /** Terms: never expiring. */
    private static void neverExpiring() {
        MailArbiter x = withLinks(1);
        for (int i = 0; i < 400; i++) {
            x.tick(1000);
        }
        Due.is("after a long time", x.chain(), 1);
        Due.is("a link then", x.link(2, 0), 1);
        Due.is("good", x.chain(), 1);
    }

    /** Terms: all names. */
    private static void allNames() {
        for (int name = 0; name <= 7; name++) {
            MailArbiter x = withLinks(1);
            x.header(name);
            Due.is("a header " + name, x.chain(), 2);
        }
    }

    /** Terms: relaxed headers and body, no limit. */
    private static void relaxedHeadersAndBody() {
        MailArbiter x = withLinks(1);
        Due.type(x, 0, "\t ");
        Due.is("blanks at a header's end", x.chain(), 1);
        Due.type(x, -1, " \t\n\n");
        Due.is("blanks and lines at the body's end", x.chain(), 1);
        Due.type(x, -1, "c");
        Due.is("a character more", x.chain(), 2);
        MailArbiter y = new MailArbiter();
        Given.anEmptyMail(y);
        Due.is("an empty mail is linked", y.link(0, 0), 0);
        Due.is("good", y.chain(), 1);
        Due.type(y, -1, " \n ");
        Due.is("blanks in it", y.chain(), 1);
        Due.type(y, -1, "c");
        Due.is("no longer empty", y.chain(), 2);
    }

    /** Terms: a SIGNATURE of its own: it is none of the three, and needs no room there. */
    private static void noRoomOfSignatures() {
        MailArbiter x = withLinks(0);
        for (int i = 0; i < 3; i++) {
            x.sign(1, 0, 255, -1, -1);
        }
        Due.is("three signatures", x.sign(1, 0, 255, -1, -1), -2);
        Due.is("a link beside them", x.link(1, 0), 0);
        Due.is("good", x.chain(), 1);
        MailArbiter y = withLinks(4);
        for (int i = 0; i < 3; i++) {
            Due.is("no signature " + i, y.signature(i), -1);
            Due.is("none to spoil", y.spoil(i, 1), false);
            Due.is("signature " + i, y.sign(1, 0, 255, -1, -1), i);
            y.spoil(i, 1);
        }
        Due.is("the chain's are not spoilt", y.chain(), 1);
    }
}
