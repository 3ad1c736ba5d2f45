/** Promises 18 and 19: chain, link. */
public final class ChainTest {
    public static void main(String[] args) {
        refusals();
        aBadChainTakesNoLinks();
        room();
        whatMakesItBad();
        whatIsForgiven();
        signaturesAreApart();
        Due.end();
    }

    private static MailArbiter withMail() {
        MailArbiter x = new MailArbiter();
        x.domain(-1, false);
        x.domain(0, false);
        x.domain(0, false);
        x.key(1, 0, 1);
        x.key(2, 1, 2);
        x.mail(0, 0, 0);
        x.header(0);
        Due.type(x, 0, "subject");
        Due.type(x, -1, "body");
        return x;
    }

    private static void refusals() {
        MailArbiter x = withMail();
        Due.is("chain() without links", x.chain(), 0);
        Due.is("no domain", x.link(3, 0), -1);
        Due.is("domain -1", x.link(-1, 0), -1);
        Due.is("selector -1", x.link(1, -1), -1);
        Due.is("selector 2", x.link(1, 2), -1);
        Due.is("no key there", x.link(1, 1), -1);
        Due.is("no key at all", x.link(0, 0), -1);
        Due.is("still without links", x.chain(), 0);
        Due.is("the first", x.link(1, 0), 0);
        Due.is("good", x.chain(), 1);
        Due.is("the second", x.link(2, 1), 1);
        Due.is("good with two", x.chain(), 1);
    }

    private static void aBadChainTakesNoLinks() {
        MailArbiter x = withMail();
        x.silent(1, true);
        Due.is("a silent domain may link", x.link(1, 0), 0);
        Due.is("but its chain is bad", x.chain(), 2);
        Due.is("and takes no link", x.link(2, 1), -1);
        x.silent(1, false);
        Due.is("good when it is no longer", x.chain(), 1);
        Due.is("then it takes one", x.link(2, 1), 1);
        Due.is("good with two", x.chain(), 1);
    }

    private static void room() {
        MailArbiter x = withMail();
        for (int i = 0; i < 4; i++) {
            Due.is("link " + i, x.link(1 + i % 2, i % 2), i);
            Due.is("good with " + i, x.chain(), 1);
        }
        Due.is("a fifth", x.link(1, 0), -2);
        Due.is("a fifth without a key", x.link(1, 1), -1);
        x.key(2, 1, 9);
        Due.is("a fifth on a bad chain", x.link(1, 0), -1);
        x.key(2, 1, 2);
        Due.is("a fifth on a good one", x.link(1, 0), -2);
    }

    private static void whatMakesItBad() {
        MailArbiter x = withMail();
        x.link(1, 0);
        x.link(2, 1);
        for (int d = 1; d <= 2; d++) {
            int selector = d - 1;
            x.silent(d, true);
            Due.is("silent " + d, x.chain(), 2);
            x.silent(d, false);
            Due.is("not silent " + d, x.chain(), 1);
            x.key(d, selector, 0);
            Due.is("no key of " + d, x.chain(), 2);
            x.key(d, selector, 100);
            Due.is("another key of " + d, x.chain(), 2);
            x.key(d, selector, d);
            Due.is("the key again of " + d, x.chain(), 1);
        }
        x.silent(0, true);
        Due.is("the author's silence does not count", x.chain(), 1);
        x.header(7);
        Due.is("a header more", x.chain(), 2);
        MailArbiter y = withMail();
        y.link(1, 0);
        Due.type(y, -1, "x");
        Due.is("a longer body", y.chain(), 2);
        MailArbiter z = withMail();
        z.link(1, 0);
        Due.type(z, 0, "x");
        Due.is("a longer header", z.chain(), 2);
    }

    private static void whatIsForgiven() {
        MailArbiter x = withMail();
        x.link(1, 0);
        Due.type(x, 0, " \t");
        Due.type(x, -1, " \n\n");
        Due.is("blanks", x.chain(), 1);
        x.tick(1000);
        Due.is("time", x.chain(), 1);
        Due.is("link", x.link(2, 1), 1);
        Due.is("good", x.chain(), 1);
    }

    private static void signaturesAreApart() {
        MailArbiter x = withMail();
        x.link(1, 0);
        Due.is("a link is no signature", x.signature(0), -1);
        Due.is("nor spoilt as one", x.spoil(0, 1), false);
        x.sign(1, 0, 255, -1, -1);
        x.spoil(0, 1);
        Due.is("a spoilt signature is none of the chain's", x.chain(), 1);
        for (int i = 1; i < 3; i++) {
            Due.is("signature " + i, x.sign(1, 0, 255, -1, -1), i);
        }
    }
}
