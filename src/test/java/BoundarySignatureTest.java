import java.util.Arrays;

/** The boundary cases of the promises 13 to 15: sign, spoil, signature. Each test tells its sentence. */
public final class BoundarySignatureTest {
    public static void main(String[] args) {
        noSuchDomain();
        selectorAndWayOutOfRange();
        noKeyThere();
        namesOutOfRange();
        limitBelowMinusOne();
        limitMoreThanTheBody();
        lifeOutOfRange();
        threeSignatures();
        noneBeforeFull();
        silentMaySign();
        noneToSpoil();
        spoilWraps();
        noneToCheck();
        silentComesFirst();
        thenTheKey();
        thenTheTime();
        aLifeOfNothing();
        theLongestLife();
        neverExpiring();
        thenTheBody();
        thenTheSeal();
        limitOfNothing();
        limitOfAll();
        noHeaders();
        emptyHeaders();
        manyHeadersOfOneName();
        digestOfNothing();
        digestWraps();
        Due.end();
    }

    /** Domain 1 has the key 77 under 0 and 88 under 1; the mail is by it, with a header 3 and a body. */
    private static void given(MailArbiter x, String header, String body) {
        Given.domains(x, 2);
        x.key(1, 0, 77);
        x.key(1, 1, 88);
        x.mail(1, 1, 7);
        x.header(3);
        Due.type(x, 0, header);
        Due.type(x, -1, body);
    }

    private static MailArbiter with(String header, String body) {
        MailArbiter x = new MailArbiter();
        given(x, header, body);
        return x;
    }

    /** Promise 13: NONE when there is no such domain. */
    private static void noSuchDomain() {
        Refused.noneEver("domain -1", x -> x.sign(-1, 0, 0, -1, -1));
        Refused.noneEver("domain 20", x -> x.sign(20, 0, 0, -1, -1));
        for (int far : Given.FAR) {
            Refused.noneEver("domain " + far, x -> x.sign(far, 0, 0, -1, -1));
        }
        Refused.none("domain 5", Given::someOfAll, x -> x.sign(5, 0, 0, -1, -1));
        MailArbiter x = new MailArbiter();
        Given.domains(x, 20);
        x.mail(0, 0, 0);
        x.key(0, 0, 5);
        x.key(19, 0, 5);
        Due.is("the first", x.sign(0, 0, 0, -1, -1), 0);
        Due.is("the last", x.sign(19, 0, 0, -1, -1), 1);
    }

    /** Promise 13: NONE when selector is not 0 or 1, way is not 0 .. 3: told as selector + 2 * way, so 0 to 7. */
    private static void selectorAndWayOutOfRange() {
        for (int how = -4; how < 0; how++) {
            int h = how;
            Refused.noneEver("how " + h, x -> x.sign(1, h, 0, -1, -1));
        }
        for (int how = 8; how < 12; how++) {
            int h = how;
            Refused.noneEver("how " + h, x -> x.sign(1, h, 0, -1, -1));
        }
        for (int far : Given.FAR) {
            Refused.noneEver("how " + far, x -> x.sign(1, far, 0, -1, -1));
        }
        for (int how = 0; how < 8; how++) {
            MailArbiter x = with("a", "b");
            Due.is("how " + how, x.sign(1, how, 255, -1, -1), 0);
            Due.is("checks", x.signature(0), 1);
            Due.type(x, 0, " ");
            Due.is("headers of how " + how, x.signature(0), how / 2 % 2 == 1 ? 1 : 2);
            MailArbiter y = with("a", "b");
            y.sign(1, how, 255, -1, -1);
            Due.type(y, -1, " ");
            Due.is("body of how " + how, y.signature(0), how / 4 == 1 ? 1 : 2);
            MailArbiter z = with("a", "b");
            z.sign(1, how, 255, -1, -1);
            z.key(1, 1, 0);
            Due.is("selector of how " + how, z.signature(0), how % 2 == 1 ? 6 : 1);
        }
    }

    /** Promise 13: NONE when it has no key there. */
    private static void noKeyThere() {
        for (int way = 0; way < 4; way++) {
            int how = 2 * way;
            Refused.none("no key under 0, way " + way, Given::someOfAll, x -> x.sign(3, how, 0, -1, -1));
            Refused.none("no key under 1, way " + way, Given::someOfAll, x -> x.sign(2, how + 1, 0, -1, -1));
            MailArbiter x = new MailArbiter();
            Given.someOfAll(x);
            Due.is("a key under 0, way " + way, x.sign(2, how, 0, -1, -1), 2);
        }
    }

    /** Promise 13: NONE when names is not 0 .. 255. */
    private static void namesOutOfRange() {
        Refused.noneEver("names -1", x -> x.sign(1, 0, -1, -1, -1));
        Refused.noneEver("names 256", x -> x.sign(1, 0, 256, -1, -1));
        for (int far : Given.FAR) {
            Refused.noneEver("names " + far, x -> x.sign(1, 0, far, -1, -1));
        }
        for (int names : new int[] {0, 1, 128, 254, 255}) {
            MailArbiter x = with("a", "b");
            Due.is("names " + names, x.sign(1, 0, names, -1, -1), 0);
            Due.is("checks", x.signature(0), 1);
            x.header(7);
            Due.is("with a header of the name 7", x.signature(0), names >= 128 ? 2 : 1);
            MailArbiter y = with("a", "b");
            y.sign(1, 0, names, -1, -1);
            y.header(0);
            Due.is("with a header of the name 0", y.signature(0), names % 2 == 1 ? 2 : 1);
        }
    }

    /** Promise 13: NONE when limit is below -1. (-1: none) */
    private static void limitBelowMinusOne() {
        Refused.noneEver("limit -2", x -> x.sign(1, 0, 0, -2, -1));
        Refused.noneEver("limit lowest", x -> x.sign(1, 0, 0, Integer.MIN_VALUE, -1));
        MailArbiter x = with("a", "b");
        Due.is("limit -1", x.sign(1, 0, 0, -1, -1), 0);
        Due.is("limit 0", x.sign(1, 0, 0, 0, -1), 1);
        Due.type(x, -1, "c");
        Due.is("without a limit all counts", x.signature(0), 2);
        Due.is("with the limit 0 nothing does", x.signature(1), 1);
    }

    private static void limits(String body, int simple, int relaxed) {
        for (int way = 0; way < 4; way++) {
            int has = way >= 2 ? relaxed : simple;
            int how = 2 * way;
            String name = "[" + body + "], way " + way;
            Refused.none("one more than " + name, x -> given(x, "", body), x -> x.sign(1, how, 0, has + 1, -1));
            MailArbiter x = with("", body);
            Due.is("as many as " + name, x.sign(1, how, 0, has, -1), 0);
            Due.is("it checks", x.signature(0), 1);
        }
    }

    /** Promise 13: NONE when the limit is more than the canonical body has. */
    private static void limitMoreThanTheBody() {
        limits("", 1, 1);
        limits("\n\n", 1, 1);
        limits("a", 2, 2);
        limits("a\n\n", 2, 2);
        limits("  ", 3, 1);
        limits("a  b \n\n", 6, 4);
        limits("x".repeat(90), 91, 91);
        limits("x".repeat(89) + "\n", 90, 90);
        Refused.noneEver("limit 92", x -> x.sign(1, 0, 0, 92, -1));
        Refused.noneEver("limit highest", x -> x.sign(1, 0, 0, Integer.MAX_VALUE, -1));
    }

    /** Promise 13: NONE when life is below -1, life above 100000. */
    private static void lifeOutOfRange() {
        Refused.noneEver("life -2", x -> x.sign(1, 0, 0, -1, -2));
        Refused.noneEver("life 100001", x -> x.sign(1, 0, 0, -1, 100001));
        for (int far : Given.FAR) {
            Refused.noneEver("life " + far, x -> x.sign(1, 0, 0, -1, far));
        }
        int[] lives = {-1, 0, 1, 99999, 100000};
        for (int life : lives) {
            MailArbiter x = with("a", "b");
            Due.is("life " + life, x.sign(1, 0, 0, -1, life), 0);
            Due.is("checks", x.signature(0), life == 0 ? 6 : 1);
        }
    }

    /** Promise 13: Answers the number of the signature; FULL when there are 3. */
    private static void threeSignatures() {
        MailArbiter x = with("a", "b");
        for (int k = 0; k < 3; k++) {
            Due.is("not there yet: " + k, x.signature(k), -1);
            Due.is("signature " + k, x.sign(1, k % 2, 255, -1, -1), k);
            Due.is("checks: " + k, x.signature(k), 1);
        }
        Due.is("signature 3", x.sign(1, 0, 255, -1, -1), -2);
        Due.is("is not there", x.signature(3), -1);
        Due.is("the last is as it was", x.signature(2), 1);
        for (int how = 0; how < 8; how++) {
            int h = how;
            Refused.full("a fourth, how " + h, Given::fullOfAll, y -> y.sign(1, h, 255, 91, 100000));
        }
    }

    /** Promise 13: NONE when ...; FULL when there are 3: NONE is told first. */
    private static void noneBeforeFull() {
        Refused.none("no such domain", Given::fullOfAll, x -> x.sign(20, 0, 0, -1, -1));
        Refused.none("no key", Given::fullOfAll, x -> x.sign(0, 0, 0, -1, -1));
        Refused.none("the limit", Given::fullOfAll, x -> x.sign(1, 0, 0, 92, -1));
    }

    /** Promise 13 names no silence: a silent domain signs, and it does not check while it is silent. */
    private static void silentMaySign() {
        MailArbiter x = with("a", "b");
        x.silent(1, true);
        Due.is("sign", x.sign(1, 0, 255, -1, -1), 0);
        Due.is("silent", x.signature(0), 5);
        x.silent(1, false);
        Due.is("no longer", x.signature(0), 1);
    }

    /** Promise 14: false when there is none such. */
    private static void noneToSpoil() {
        Refused.notEver("signature -1", x -> x.spoil(-1, 1));
        Refused.notEver("signature 3", x -> x.spoil(3, 1));
        for (int far : Given.FAR) {
            Refused.notEver("signature " + far, x -> x.spoil(far, 1));
        }
        Refused.not("signature 0 of a new object", Given::nothing, x -> x.spoil(0, 1));
        Refused.not("signature 0 of an empty mail", Given::anEmptyMail, x -> x.spoil(0, 1));
        Refused.not("signature 2 of two", Given::someOfAll, x -> x.spoil(2, 1));
        for (int k = 0; k < 3; k++) {
            MailArbiter x = with("a", "b");
            for (int i = 0; i < 3; i++) {
                x.sign(1, 0, 255, -1, -1);
            }
            Due.is("signature " + k, x.spoil(k, 1), true);
            for (int i = 0; i < 3; i++) {
                Due.is("signature " + i + " when " + k + " is spoilt", x.signature(i), i == k ? 2 : 1);
            }
        }
    }

    /** Promise 14: The seal of signature k becomes more by some number (wrapping). */
    private static void spoilWraps() {
        MailArbiter x = with("a", "b");
        x.sign(1, 0, 255, -1, -1);
        Due.is("by 0", x.spoil(0, 0), true);
        Due.is("nothing is spoilt", x.signature(0), 1);
        Due.is("by the lowest", x.spoil(0, Integer.MIN_VALUE), true);
        Due.is("spoilt", x.signature(0), 2);
        Due.is("by the lowest again", x.spoil(0, Integer.MIN_VALUE), true);
        Due.is("wrapped", x.signature(0), 1);
        Due.is("by the highest", x.spoil(0, Integer.MAX_VALUE), true);
        Due.is("spoilt again", x.signature(0), 2);
        Due.is("by 1", x.spoil(0, 1), true);
        Due.is("not yet round", x.signature(0), 2);
        Due.is("by the highest once more", x.spoil(0, Integer.MAX_VALUE), true);
        Due.is("one too few", x.signature(0), 2);
        Due.is("by 1 more", x.spoil(0, 1), true);
        Due.is("round", x.signature(0), 1);
        Due.is("by -1", x.spoil(0, -1), true);
        Due.is("one less", x.signature(0), 2);
    }

    /** Promise 15: NONE when there is none such. */
    private static void noneToCheck() {
        Refused.noneEver("signature -1", x -> x.signature(-1));
        Refused.noneEver("signature 3", x -> x.signature(3));
        for (int far : Given.FAR) {
            Refused.noneEver("signature " + far, x -> x.signature(far));
        }
        Refused.none("signature 0 of a new object", Given::nothing, x -> x.signature(0));
        Refused.none("signature 0 of an empty mail", Given::anEmptyMail, x -> x.signature(0));
        Refused.none("signature 2 of two", Given::someOfAll, x -> x.signature(2));
        MailArbiter x = new MailArbiter();
        Given.someOfAll(x);
        Due.is("signature 0 of two", x.signature(0), 1);
        Due.is("signature 1 of two", x.signature(1), 1);
    }

    /** Terms: the first of these that is so: 5 its domain is silent. */
    private static void silentComesFirst() {
        MailArbiter x = with("a", "b");
        x.sign(1, 0, 255, -1, 0);
        x.silent(1, true);
        Due.is("silent and expired", x.signature(0), 5);
        x.key(1, 0, 0);
        Due.is("silent, expired and without a key", x.signature(0), 5);
        Due.type(x, -1, "c");
        x.spoil(0, 1);
        Due.is("and with another body and seal", x.signature(0), 5);
    }

    /** Terms: 6 it has no key under the selector. */
    private static void thenTheKey() {
        MailArbiter x = with("a", "b");
        x.sign(1, 0, 255, -1, -1);
        x.key(1, 0, 0);
        Due.is("no key", x.signature(0), 6);
        Due.type(x, -1, "c");
        Due.is("no key and another body", x.signature(0), 6);
        x.spoil(0, 1);
        Due.is("no key and another seal", x.signature(0), 6);
        x.key(1, 0, 77);
        Due.is("a key, but another body", x.signature(0), 2);
        MailArbiter y = with("a", "b");
        y.sign(1, 1, 255, -1, -1);
        y.key(1, 0, 0);
        Due.is("no key under the other selector", y.signature(0), 1);
        y.key(1, 1, 0);
        y.key(1, 0, 88);
        Due.is("its key under the other selector", y.signature(0), 6);
    }

    /** Terms: 6 it expires, and not after the time. */
    private static void thenTheTime() {
        for (int life : new int[] {1, 2, 999, 1000}) {
            MailArbiter x = with("a", "b");
            x.tick(5);
            x.sign(1, 0, 255, -1, life);
            x.tick(life - 1);
            Due.is("one before it expires: " + life, x.signature(0), 1);
            x.tick(0);
            Due.is("no time goes: " + life, x.signature(0), 1);
            x.tick(1001);
            x.tick(-1);
            Due.is("refused ticks: " + life, x.signature(0), 1);
            x.tick(1);
            Due.is("when it expires: " + life, x.signature(0), 6);
            x.tick(1);
            Due.is("one after: " + life, x.signature(0), 6);
            Due.type(x, -1, "c");
            x.spoil(0, 1);
            Due.is("expired and spoilt: " + life, x.signature(0), 6);
        }
    }

    /** Promise 13: life is how long it holds: with 0 it expires at once. */
    private static void aLifeOfNothing() {
        MailArbiter x = with("a", "b");
        x.sign(1, 0, 255, -1, 0);
        Due.is("at the time 0", x.signature(0), 6);
        x.tick(1000);
        x.sign(1, 0, 255, -1, 0);
        Due.is("at the time 1000", x.signature(1), 6);
    }

    /** Promise 13: (life) 100000 is the longest. */
    private static void theLongestLife() {
        MailArbiter x = with("a", "b");
        x.tick(1000);
        x.sign(1, 0, 255, -1, 100000);
        x.sign(1, 0, 255, -1, 99999);
        for (int i = 0; i < 99; i++) {
            x.tick(1000);
        }
        x.tick(998);
        Due.is("99999, one before", x.signature(1), 1);
        x.tick(1);
        Due.is("99999", x.signature(1), 6);
        Due.is("100000, one before", x.signature(0), 1);
        x.tick(1);
        Due.is("100000", x.signature(0), 6);
    }

    /** Terms: when it expires (-1: never). */
    private static void neverExpiring() {
        MailArbiter x = with("a", "b");
        x.sign(1, 0, 255, -1, -1);
        Due.is("at once", x.signature(0), 1);
        for (int i = 0; i < 480; i++) {
            x.tick(1000);
        }
        Due.is("after all the time there is", x.signature(0), 1);
        Due.is("one signed then", x.sign(1, 0, 255, -1, -1), 1);
        Due.is("holds too", x.signature(1), 1);
    }

    /** Terms: 2 the body's digest is not that which would be made now. */
    private static void thenTheBody() {
        MailArbiter x = with("a", "b");
        x.sign(1, 0, 255, -1, -1);
        int old = Digest.of(77, 1, 0, 0, 255, -1, -1, Digest.of('b', 10), 3, 'a', 0);
        Due.type(x, -1, "c");
        Due.is("another body", x.signature(0), 2);
        x.spoil(0, Digest.of(77, 1, 0, 0, 255, -1, -1, Digest.of('b', 'c', 10), 3, 'a', 0) - old);
        Due.is("though the seal were that of now", x.signature(0), 2);
    }

    /** Terms: 2 the seal is not; otherwise 1. */
    private static void thenTheSeal() {
        MailArbiter x = with("a", "b");
        x.sign(1, 0, 255, -1, -1);
        Due.is("otherwise", x.signature(0), 1);
        x.spoil(0, -1);
        Due.is("one less", x.signature(0), 2);
        x.spoil(0, 2);
        Due.is("one more", x.signature(0), 2);
        x.spoil(0, -1);
        Due.is("as it was", x.signature(0), 1);
    }

    /** Terms: of the first limit ones, if there is a limit: 0 is one. */
    private static void limitOfNothing() {
        for (int how = 0; how < 8; how++) {
            MailArbiter x = with("a", "");
            Due.is("limit 0 of an empty body", x.sign(1, how, 255, 0, -1), 0);
            Due.type(x, -1, "whatever");
            Due.is("any body will do, how " + how, x.signature(0), 1);
            Due.type(x, 0, "x");
            Due.is("but not any header", x.signature(0), 2);
        }
    }

    /** Terms: of the first limit ones: the last within the limit counts, the first beyond does not. */
    private static void limitOfAll() {
        MailArbiter x = with("a", "bc");
        x.sign(1, 0, 255, 2, -1);
        x.sign(1, 0, 255, 3, -1);
        x.sign(1, 4, 255, 3, -1);
        Due.type(x, -1, "\n");
        Due.is("the line's end that was put, 2", x.signature(0), 1);
        Due.is("the line's end that was put, 3", x.signature(1), 1);
        Due.type(x, -1, "d");
        Due.is("the first beyond", x.signature(0), 1);
        Due.is("the line's end is still the third", x.signature(1), 1);
        Due.is("relaxed too", x.signature(2), 1);
        MailArbiter y = with("a", "bc");
        y.sign(1, 0, 255, 2, -1);
        y.sign(1, 0, 255, 3, -1);
        Due.type(y, -1, "d");
        Due.is("within two", y.signature(0), 1);
        Due.is("the third is another", y.signature(1), 2);
        MailArbiter z = with("a", "x".repeat(89));
        z.sign(1, 0, 255, 90, -1);
        z.sign(1, 0, 255, 89, -1);
        Due.type(z, -1, "y");
        Due.is("the ninetieth counts with 90", z.signature(0), 2);
        Due.is("and not with 89", z.signature(1), 1);
    }

    /** Terms: of each header whose name is one of these: there may be none. */
    private static void noHeaders() {
        MailArbiter x = new MailArbiter();
        Given.anEmptyMail(x);
        Due.is("all names, no header", x.sign(0, 0, 255, -1, -1), 0);
        Due.is("checks", x.signature(0), 1);
        int none = Digest.of(5, 0, 0, 0, 255, -1, -1, Digest.of(10));
        x.header(7);
        Due.is("a header, empty", x.signature(0), 2);
        x.spoil(0, Digest.of(5, 0, 0, 0, 255, -1, -1, Digest.of(10), 7, 0) - none);
        Due.is("its name and 0 are in the seal", x.signature(0), 1);
    }

    /**
     * Terms: its name and the characters of its canonical text, and 0: an empty text and one of blanks are
     * the same, relaxed.
     */
    private static void emptyHeaders() {
        MailArbiter x = with("", "");
        x.sign(1, 0, 8, -1, -1);
        x.sign(1, 2, 8, -1, -1);
        Due.type(x, 0, " \t ");
        Due.is("simple", x.signature(0), 2);
        Due.is("relaxed", x.signature(1), 1);
        Due.type(x, 0, ".");
        Due.is("relaxed, no longer empty", x.signature(1), 2);
    }

    /** Terms: of each header whose name is one of these, in order: up to all six. */
    private static void manyHeadersOfOneName() {
        MailArbiter x = with("a", "b");
        for (int i = 1; i < 6; i++) {
            x.header(3);
        }
        x.sign(1, 0, 8, -1, -1);
        Due.is("six of one name", x.signature(0), 1);
        int[] start = {77, 1, 0, 0, 8, -1, -1, Digest.of('b', 10), 3, 'a', 0, 3, 0, 3, 0, 3, 0, 3, 0};
        int old = Digest.of(append(start, 3, 0));
        Due.type(x, 5, "z");
        Due.is("the last counts", x.signature(0), 2);
        x.spoil(0, Digest.of(append(start, 3, 'z', 0)) - old);
        Due.is("in its place", x.signature(0), 1);
    }

    private static int[] append(int[] start, int... more) {
        int[] all = Arrays.copyOf(start, start.length + more.length);
        System.arraycopy(more, 0, all, start.length, more.length);
        return all;
    }

    /** Terms: h is a long, 0 at first: the digest of no ints is 0. */
    private static void digestOfNothing() {
        MailArbiter x = with("", "b");
        x.sign(1, 0, 0, 0, -1);
        int old = Digest.of(77, 1, 0, 0, 0, 0, -1, 0);
        x.key(1, 0, 1000000);
        Due.is("another key", x.signature(0), 2);
        x.spoil(0, Digest.of(1000000, 1, 0, 0, 0, 0, -1, 0) - old);
        Due.is("its seal", x.signature(0), 1);
    }

    /** Terms: h becomes (h xor x) * 0x9E3779B97F4A7C15 (wrapping): through the longest mail there is. */
    private static void digestWraps() {
        MailArbiter x = new MailArbiter();
        Given.domains(x, 20);
        x.key(19, 1, 1000000);
        x.mail(0, 0, 0);
        int[] body = new int[91];
        Arrays.fill(body, '~');
        body[90] = 10;
        Due.type(x, -1, "~".repeat(90));
        int[] seal = {1000000, 19, 1, 3, 255, 91, 100000, Digest.of(body)};
        for (int k = 0; k < 6; k++) {
            x.header(7);
            Due.type(x, k, "~".repeat(24));
            int[] text = new int[26];
            Arrays.fill(text, '~');
            text[0] = 7;
            text[25] = 0;
            seal = append(seal, text);
        }
        Due.is("sign", x.sign(19, 7, 255, 91, 100000), 0);
        Due.is("checks", x.signature(0), 1);
        int old = Digest.of(seal);
        seal[0] = 1;
        x.key(19, 1, 1);
        Due.is("another key", x.signature(0), 2);
        x.spoil(0, Digest.of(seal) - old);
        Due.is("its seal", x.signature(0), 1);
    }
}
