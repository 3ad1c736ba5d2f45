/** Promises 13 to 15: sign, spoil, signature; and the digest, which spoil lets a test see. */
public final class SignatureTest {
    public static void main(String[] args) {
        ranges();
        room();
        limitsOfSigning();
        lives();
        whatChecksFirst();
        headersForgive();
        bodiesForgive();
        limitedBodies();
        namesCount();
        spoiling();
        sealsAreTheDigest();
        bodiesCannotBeMendedBySpoiling();
        Due.end();
    }

    /** Domain 1 has the key 77 under 0 and 88 under 1; the mail has a header 3 and a body. */
    private static MailArbiter with(String header, String body) {
        MailArbiter x = new MailArbiter();
        x.domain(-1, false);
        x.domain(0, false);
        x.key(1, 0, 77);
        x.key(1, 1, 88);
        x.mail(1, 1, 0);
        x.header(3);
        Due.type(x, 0, header);
        Due.type(x, -1, body);
        return x;
    }

    private static void ranges() {
        MailArbiter x = with("h", "abc");
        Due.is("no domain", x.sign(2, 0, 0, -1, -1), -1);
        Due.is("domain -1", x.sign(-1, 0, 0, -1, -1), -1);
        Due.is("no key", x.sign(0, 0, 0, -1, -1), -1);
        Due.is("how -1", x.sign(1, -1, 0, -1, -1), -1);
        Due.is("how -2", x.sign(1, -2, 0, -1, -1), -1);
        Due.is("how 8", x.sign(1, 8, 0, -1, -1), -1);
        Due.is("names -1", x.sign(1, 0, -1, -1, -1), -1);
        Due.is("names 256", x.sign(1, 0, 256, -1, -1), -1);
        Due.is("limit -2", x.sign(1, 0, 0, -2, -1), -1);
        Due.is("life -2", x.sign(1, 0, 0, -1, -2), -1);
        Due.is("life 100001", x.sign(1, 0, 0, -1, 100001), -1);
        Due.is("no signature came of it", x.signature(0), -1);
        Due.is("the highest", x.sign(1, 7, 255, 4, 100000), 0);
        Due.is("the lowest", x.sign(1, 0, 0, -1, -1), 1);
        Due.is("signature(0)", x.signature(0), 1);
        Due.is("signature(1)", x.signature(1), 1);
        Due.is("signature(2)", x.signature(2), -1);
        Due.is("signature(-1)", x.signature(-1), -1);
    }

    private static void room() {
        MailArbiter x = with("h", "abc");
        for (int i = 0; i < 3; i++) {
            Due.is("signature " + i, x.sign(1, i, 8, -1, -1), i);
        }
        Due.is("a fourth", x.sign(1, 0, 8, -1, -1), -2);
        Due.is("a fourth with too high a limit", x.sign(1, 0, 8, 5, -1), -1);
        Due.is("a fourth with names 256", x.sign(1, 0, 256, -1, -1), -1);
        for (int i = 0; i < 3; i++) {
            Due.is("signature(" + i + ")", x.signature(i), 1);
        }
    }

    private static void limitsOfSigning() {
        MailArbiter x = with("", "a  b \n\n");
        Due.is("simple has 6: 7", x.sign(1, 0, 0, 7, -1), -1);
        Due.is("simple has 6: 6", x.sign(1, 0, 0, 6, -1), 0);
        Due.is("relaxed has 4: 5", x.sign(1, 4, 0, 5, -1), -1);
        Due.is("relaxed headers only: 6", x.sign(1, 2, 0, 6, -1), 1);
        Due.is("relaxed has 4: 4", x.sign(1, 4, 0, 4, -1), 2);
        MailArbiter y = with("", "");
        Due.is("nothing has 1: 2", y.sign(1, 0, 0, 2, -1), -1);
        Due.is("nothing has 1: 1", y.sign(1, 0, 0, 1, -1), 0);
        Due.is("limit 0", y.sign(1, 0, 0, 0, -1), 1);
    }

    private static void lives() {
        MailArbiter x = with("h", "b");
        x.tick(100);
        x.sign(1, 0, 8, -1, 0);
        x.sign(1, 0, 8, -1, 2);
        x.sign(1, 0, 8, -1, -1);
        Due.is("a life of 0", x.signature(0), 6);
        Due.is("a life of 2", x.signature(1), 1);
        x.tick(1);
        Due.is("a life of 2 after 1", x.signature(1), 1);
        x.tick(1);
        Due.is("a life of 2 after 2", x.signature(1), 6);
        x.tick(1000);
        Due.is("for ever", x.signature(2), 1);
    }

    private static void whatChecksFirst() {
        MailArbiter x = with("h", "b");
        x.sign(1, 0, 8, -1, 1);
        Due.is("at first", x.signature(0), 1);
        x.spoil(0, 1);
        Due.is("spoilt", x.signature(0), 2);
        Due.type(x, -1, "more");
        Due.is("another body", x.signature(0), 2);
        x.tick(1);
        Due.is("expired", x.signature(0), 6);
        x.key(1, 0, 0);
        Due.is("without a key", x.signature(0), 6);
        x.silent(1, true);
        Due.is("silent", x.signature(0), 5);
        x.silent(1, false);
        Due.is("no longer silent", x.signature(0), 6);
        x.silent(0, true);
        Due.is("its parent's silence does not count", x.signature(0), 6);
    }

    private static void headersForgive() {
        MailArbiter x = with("a b", "b");
        x.sign(1, 0, 8, -1, -1);
        x.sign(1, 2, 8, -1, -1);
        x.sign(1, 4, 8, -1, -1);
        Due.type(x, 0, " \t");
        Due.is("simple", x.signature(0), 2);
        Due.is("relaxed headers", x.signature(1), 1);
        Due.is("relaxed body alone", x.signature(2), 2);
        Due.type(x, 0, "c");
        Due.is("relaxed headers, with a word more", x.signature(1), 2);
    }

    private static void bodiesForgive() {
        MailArbiter x = with("h", "b");
        x.sign(1, 0, 8, -1, -1);
        x.sign(1, 2, 8, -1, -1);
        x.sign(1, 4, 8, -1, -1);
        Due.type(x, -1, "\n\n");
        for (int i = 0; i < 3; i++) {
            Due.is("lines' ends are forgiven, " + i, x.signature(i), 1);
        }
        Due.type(x, -1, " ");
        Due.is("simple", x.signature(0), 2);
        Due.is("relaxed headers alone", x.signature(1), 2);
        Due.is("relaxed body", x.signature(2), 1);
        Due.type(x, -1, "c");
        Due.is("relaxed body, with a word more", x.signature(2), 2);
    }

    private static void limitedBodies() {
        MailArbiter x = with("h", "abc");
        x.sign(1, 0, 8, 3, -1);
        x.sign(1, 0, 8, 4, -1);
        x.sign(1, 0, 8, 0, -1);
        Due.type(x, -1, "d");
        Due.is("within the limit nothing changed", x.signature(0), 1);
        Due.is("the line's end was within", x.signature(1), 2);
        Due.is("nothing is within", x.signature(2), 1);
    }

    private static void namesCount() {
        MailArbiter x = with("h", "b");
        x.sign(1, 0, 8, -1, -1);
        x.sign(1, 0, 255, -1, -1);
        x.sign(1, 0, 0, -1, -1);
        x.header(2);
        Due.is("another name", x.signature(0), 1);
        Due.is("all names", x.signature(1), 2);
        Due.is("no names", x.signature(2), 1);
        x.header(3);
        Due.is("its name, empty", x.signature(0), 2);
        Due.is("no names still", x.signature(2), 1);
    }

    private static void spoiling() {
        MailArbiter x = with("h", "b");
        Due.is("spoil before", x.spoil(0, 1), false);
        x.sign(1, 0, 8, -1, -1);
        x.sign(1, 1, 8, -1, -1);
        Due.is("spoil(2)", x.spoil(2, 1), false);
        Due.is("spoil(-1)", x.spoil(-1, 1), false);
        Due.is("by 0", x.spoil(0, 0), true);
        Due.is("nothing changed", x.signature(0), 1);
        Due.is("by the highest", x.spoil(0, Integer.MAX_VALUE), true);
        Due.is("spoilt", x.signature(0), 2);
        Due.is("the other is not", x.signature(1), 1);
        Due.is("by the highest again", x.spoil(0, Integer.MAX_VALUE), true);
        Due.is("by 2, which wraps round", x.spoil(0, 2), true);
        Due.is("good again", x.signature(0), 1);
    }

    /** The seal of a changed mail less that of the old one mends a signature, if both are as the document says. */
    private static void sealsAreTheDigest() {
        int body = Digest.of('b', 10);
        MailArbiter x = with("a  b", "b");
        x.tick(40);
        x.sign(1, 1, 8 + 4, -1, 5);
        int old = Digest.of(88, 1, 1, 0, 12, -1, 45, body, 3, 'a', 32, 32, 'b', 0);
        x.header(2);
        Due.type(x, 1, " c");
        Due.is("another header", x.signature(0), 2);
        int seal = Digest.of(88, 1, 1, 0, 12, -1, 45, body, 3, 'a', 32, 32, 'b', 0, 2, 32, 'c', 0);
        x.spoil(0, seal - old);
        Due.is("its seal is due now", x.signature(0), 1);

        MailArbiter y = with("a  b ", " b  c \nd");
        y.sign(1, 6, 255, 3, -1);
        int limited = Digest.of(32, 'b', 32);
        int before = Digest.of(77, 1, 0, 3, 255, 3, -1, limited, 3, 'a', 32, 'b', 0);
        y.key(1, 0, 78);
        int after = Digest.of(78, 1, 0, 3, 255, 3, -1, limited, 3, 'a', 32, 'b', 0);
        y.spoil(0, after - before);
        Due.is("the seal under another key", y.signature(0), 1);
    }

    private static void bodiesCannotBeMendedBySpoiling() {
        MailArbiter x = with("", "b");
        x.sign(1, 0, 0, -1, -1);
        int old = Digest.of(77, 1, 0, 0, 0, -1, -1, Digest.of('b', 10));
        Due.type(x, -1, "c");
        x.spoil(0, Digest.of(77, 1, 0, 0, 0, -1, -1, Digest.of('b', 'c', 10)) - old);
        Due.is("the body's digest is kept beside the seal", x.signature(0), 2);
    }
}
