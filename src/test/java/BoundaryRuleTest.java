/** The boundary cases of promise 6, rule. Each test tells its sentence. */
public final class BoundaryRuleTest {
    public static void main(String[] args) {
        noSuchDomain();
        noSuchSign();
        signCountsForTermsAlone();
        noSuchKind();
        noSuchLength();
        lengthCountsWhereThereIsOne();
        noDomainForV();
        vCountsWhereThereIsOne();
        sixTerms();
        aRedirectTakesNoRoom();
        oneRedirect();
        aRuleComesWithTheFirst();
        eachDomainHasItsOwn();
        Due.end();
    }

    private static MailArbiter with(int domains) {
        MailArbiter x = new MailArbiter();
        Given.domains(x, domains);
        x.mail(0, 0, 0);
        return x;
    }

    /** Promise 6: NONE when there is no such domain. */
    private static void noSuchDomain() {
        for (int kind = 0; kind <= Kind.REDIRECT; kind++) {
            int k = kind;
            Refused.noneEver("of domain -1, kind " + k, x -> x.rule(-1, 0, k, 0, 0));
            Refused.noneEver("of domain 20, kind " + k, x -> x.rule(20, 0, k, 0, 0));
            Refused.none("of domain 0, kind " + k, Given::nothing, x -> x.rule(0, 0, k, 0, 0));
            Refused.none("of domain 5, kind " + k, Given::someOfAll, x -> x.rule(5, 0, k, 0, 0));
        }
        for (int far : Given.FAR) {
            Refused.noneEver("of domain " + far, x -> x.rule(far, 0, 0, 0, 0));
        }
        Due.is("of the first", with(5).rule(0, 0, 0, 0, 0), 1);
        Due.is("of the last", with(5).rule(4, 0, 0, 0, 0), 1);
        Due.is("of domain 19", with(20).rule(19, 0, 0, 0, 0), 1);
    }

    /** Promise 6: NONE when there is no such sign. (0 pass, 1 fail, 2 soft fail, 3 neutral) */
    private static void noSuchSign() {
        for (int kind = 0; kind <= Kind.EXISTING; kind++) {
            int k = kind;
            Refused.noneEver("sign -1, kind " + k, x -> x.rule(1, -1, k, 1, 1));
            Refused.noneEver("sign 4, kind " + k, x -> x.rule(1, 4, k, 1, 1));
            Due.is("sign 0, kind " + k, with(2).rule(1, 0, k, 1, 1), 1);
            Due.is("sign 3, kind " + k, with(2).rule(1, 3, k, 1, 1), 1);
        }
        for (int far : Given.FAR) {
            Refused.noneEver("sign " + far, x -> x.rule(1, far, 0, 1, 1));
        }
        for (int sign = 0; sign < 4; sign++) {
            MailArbiter x = with(1);
            x.rule(0, sign, 0, 0, 0);
            Due.is("the result of sign " + sign, x.sender(), sign + 1);
        }
    }

    /** Promise 6: sign counts for terms alone. */
    private static void signCountsForTermsAlone() {
        int[] signs = {-1, 4, Integer.MIN_VALUE, Integer.MAX_VALUE};
        for (int sign : signs) {
            MailArbiter x = with(2);
            x.rule(1, 2, 0, 0, 0);
            Due.is("a redirect with sign " + sign, x.rule(0, sign, Kind.REDIRECT, 1, 0), 0);
            Due.is("is there", x.sender(), 3);
        }
    }

    /** Promise 6: NONE when there is no such kind. */
    private static void noSuchKind() {
        Refused.noneEver("kind -1", x -> x.rule(1, 0, -1, 1, 1));
        Refused.noneEver("kind 7", x -> x.rule(1, 0, 7, 1, 1));
        for (int far : Given.FAR) {
            Refused.noneEver("kind " + far, x -> x.rule(1, 0, far, 1, 1));
        }
        for (int kind = 0; kind <= Kind.EXISTING; kind++) {
            Due.is("kind " + kind, with(2).rule(1, 0, kind, 1, 1), 1);
        }
        Due.is("kind 6 is no term", with(2).rule(1, 0, Kind.REDIRECT, 1, 1), 0);
    }

    /** Promise 6: NONE when there is no such length. (those of the kinds 1 to 3 have a LENGTH too (0 to 32)) */
    private static void noSuchLength() {
        for (int kind = Kind.ADDRESS; kind <= Kind.EXCHANGERS; kind++) {
            int k = kind;
            Refused.noneEver("length -1, kind " + k, x -> x.rule(1, 0, k, 1, -1));
            Refused.noneEver("length 33, kind " + k, x -> x.rule(1, 0, k, 1, 33));
            for (int far : Given.FAR) {
                Refused.noneEver("length " + far + ", kind " + k, x -> x.rule(1, 0, k, 1, far));
            }
            Due.is("length 0, kind " + k, with(2).rule(1, 0, k, 1, 0), 1);
            Due.is("length 32, kind " + k, with(2).rule(1, 0, k, 1, 32), 1);
        }
    }

    /** Promise 6: length counts for kinds that have them. */
    private static void lengthCountsWhereThereIsOne() {
        int[] lengths = {-1, 33, Integer.MIN_VALUE, Integer.MAX_VALUE};
        for (int length : lengths) {
            for (int kind : new int[] {0, 4, Kind.EXISTING}) {
                MailArbiter x = with(2);
                x.host(1, 0, 5);
                x.rule(1, 0, 0, 0, 0);
                Due.is("length " + length + ", kind " + kind, x.rule(0, 2, kind, 1, length), 1);
                Due.is("it matches", x.sender(), 3);
            }
            MailArbiter y = with(2);
            y.rule(1, 1, 0, 0, 0);
            Due.is("length " + length + ", the redirect", y.rule(0, 0, Kind.REDIRECT, 1, length), 0);
            Due.is("it is there", y.sender(), 2);
        }
    }

    /** Promise 6: NONE when v is no domain (kinds 2 to 6). */
    private static void noDomainForV() {
        for (int kind = Kind.ADDRESSES; kind <= Kind.REDIRECT; kind++) {
            int k = kind;
            Refused.noneEver("v -1, kind " + k, x -> x.rule(1, 0, k, -1, 1));
            Refused.noneEver("v 20, kind " + k, x -> x.rule(1, 0, k, 20, 1));
            Refused.none("v 5, kind " + k, Given::someOfAll, x -> x.rule(1, 0, k, 5, 1));
            for (int far : Given.FAR) {
                Refused.noneEver("v " + far + ", kind " + k, x -> x.rule(1, 0, k, far, 1));
            }
            int due = kind == Kind.REDIRECT ? 0 : 1;
            Due.is("v 0, kind " + k, with(5).rule(2, 0, k, 0, 1), due);
            Due.is("the last as v, kind " + k, with(5).rule(2, 0, k, 4, 1), due);
            Due.is("itself as v, kind " + k, with(5).rule(2, 0, k, 2, 1), due);
            Due.is("v 19, kind " + k, with(20).rule(2, 0, k, 19, 1), due);
        }
    }

    /** Promise 6: v counts for kinds that have them: all has none, and an address is any int. */
    private static void vCountsWhereThereIsOne() {
        int[] values = {-2, -1, 20, Integer.MIN_VALUE, Integer.MAX_VALUE};
        for (int v : values) {
            MailArbiter x = with(1);
            Due.is("all, v " + v, x.rule(0, 1, 0, v, 0), 1);
            Due.is("all matches", x.sender(), 2);
            MailArbiter y = with(1);
            Due.is("address, v " + v, y.rule(0, 1, Kind.ADDRESS, v, 32), 1);
            y.mail(0, 0, v);
            Due.is("the address matches", y.sender(), 2);
            y.mail(0, 0, v ^ 1);
            Due.is("another does not", y.sender(), 4);
        }
    }

    /** Promise 6: Answers how many terms it has then; FULL when it has 6 terms. */
    private static void sixTerms() {
        MailArbiter x = with(1);
        for (int i = 1; i <= 6; i++) {
            Due.is("term " + i, x.rule(0, i % 4, Kind.ADDRESS, i, 32), i);
        }
        Due.is("term 7", x.rule(0, 0, Kind.ADDRESS, 7, 32), -2);
        for (int i = 1; i <= 6; i++) {
            x.mail(0, 0, i);
            Due.is("term " + i + " is there", x.sender(), i % 4 + 1);
        }
        x.mail(0, 0, 7);
        Due.is("term 7 is not", x.sender(), 4);
        for (int kind = 0; kind <= Kind.EXISTING; kind++) {
            int k = kind;
            Refused.full("a seventh, kind " + k, Given::fullOfAll, y -> y.rule(1, 0, k, 1, 0));
        }
    }

    /** Terms: at most 6 TERMS, and perhaps a REDIRECT: it is no term, and has room beside six. */
    private static void aRedirectTakesNoRoom() {
        MailArbiter x = with(3);
        Due.is("before the terms", x.rule(0, 0, Kind.REDIRECT, 1, 0), 0);
        for (int i = 1; i <= 6; i++) {
            Due.is("term " + i, x.rule(0, 0, Kind.ADDRESS, 9, 32), i);
        }
        Due.is("a seventh", x.rule(0, 0, Kind.ADDRESS, 9, 32), -2);
        x.rule(2, 1, 0, 0, 0);
        Due.is("another beside six", x.rule(0, 0, Kind.REDIRECT, 2, 0), 6);
        Due.is("it counts", x.sender(), 2);
    }

    /** Promise 6: the redirect, in place of one that there was. */
    private static void oneRedirect() {
        MailArbiter x = with(5);
        for (int d = 1; d < 5; d++) {
            x.rule(d, d - 1, 0, 0, 0);
            Due.is("redirect to " + d, x.rule(0, 0, Kind.REDIRECT, d, 0), 0);
            Due.is("it is in place of the one before", x.sender(), d);
        }
        Due.is("a refused one", x.rule(0, 0, Kind.REDIRECT, 5, 0), -1);
        Due.is("leaves the one there was", x.sender(), 4);
        x.rule(0, 0, Kind.REDIRECT, 1, 0);
        Due.is("the first again", x.sender(), 1);
        Due.is("one lookup, not one for each there was", x.counted(0), 1);
    }

    /** Promise 6: a rule comes with the first of these. (TO CHECK: none if it has no rule; otherwise neutral) */
    private static void aRuleComesWithTheFirst() {
        MailArbiter x = with(2);
        Due.is("no rule", x.sender(), 0);
        x.rule(0, 4, 0, 0, 0);
        x.rule(0, 0, Kind.ADDRESS, 0, 33);
        x.rule(0, 0, Kind.REDIRECT, 2, 0);
        Due.is("none comes with what is refused", x.sender(), 0);
        x.rule(0, 0, Kind.ADDRESS, 1, 32);
        Due.is("one with a term", x.sender(), 4);
        MailArbiter y = with(2);
        y.rule(1, 0, 0, 0, 0);
        Due.is("a rule of another is none of its own", y.sender(), 0);
        y.rule(0, 0, Kind.REDIRECT, 1, 0);
        Due.is("one with a redirect", y.sender(), 1);
    }

    /** Terms: A RULE has at most 6 TERMS: those of one domain take no room of another's. */
    private static void eachDomainHasItsOwn() {
        MailArbiter x = with(20);
        for (int d = 0; d < 20; d++) {
            for (int i = 1; i <= 6; i++) {
                Due.is("term " + i + " of " + d, x.rule(d, 0, 0, 0, 0), i);
            }
            Due.is("term 7 of " + d, x.rule(d, 0, 0, 0, 0), -2);
        }
    }
}
