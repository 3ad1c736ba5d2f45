/** The boundary cases of the promises 20 and 21: judge, row. Each test tells its sentence. */
public final class BoundaryJudgeTest {
    private static final int HERE = 7;

    public static void main(String[] args) {
        noMail();
        drawOutOfRange();
        onlyPassAgrees();
        onlyOneAgrees();
        theSenderIsTheAuthor();
        theSenderHasTheSameHome();
        noSignatures();
        theThirdSignature();
        withoutAPolicy();
        itsHomeIsItself();
        belowOfItsHome();
        theAuthorIsSilent();
        itsHomeIsSilent();
        drawIsThePart();
        notBelowNothing();
        itAgreesWhateverIsDrawn();
        rowsByFourThings();
        twelveRows();
        noSuchRow();
        anotherWhat();
        howOften();
        Due.end();
    }

    /** A family of five, each of whom has a key and passes what is from HERE. */
    private static MailArbiter withDomains() {
        MailArbiter x = new MailArbiter();
        Given.familyOfFive(x);
        for (int d = 0; d < 5; d++) {
            x.key(d, 0, 10 + d);
            x.rule(d, 0, 1, HERE, 32);
        }
        return x;
    }

    /** Promise 20: NONE when there is no mail. */
    private static void noMail() {
        for (int draw : new int[] {0, 50, 99}) {
            Refused.none("judge(" + draw + ") of a new object", Given::nothing, x -> x.judge(draw));
            Refused.none("judge(" + draw + ") with domains", x -> Given.domains(x, 20), x -> x.judge(draw));
        }
    }

    /** Promise 20: NONE when draw is not 0 .. 99. */
    private static void drawOutOfRange() {
        Refused.noneEver("draw -1", x -> x.judge(-1));
        Refused.noneEver("draw 100", x -> x.judge(100));
        for (int far : Given.FAR) {
            Refused.noneEver("draw " + far, x -> x.judge(far));
        }
        for (int draw : new int[] {0, 1, 98, 99}) {
            MailArbiter x = withDomains();
            x.mail(1, 1, 0);
            Due.is("draw " + draw, x.judge(draw), 0);
            Due.is("is counted", x.row(0, 4), 1);
        }
    }

    /** Promise 20: It AGREES when checking by the sender gives pass (and no other result). */
    private static void onlyPassAgrees() {
        for (int result = 0; result <= 6; result++) {
            MailArbiter x = new MailArbiter();
            Given.domains(x, 3);
            if (result >= 1 && result <= 4) {
                x.rule(1, result - 1, 0, 0, 0);
            } else if (result == 5) {
                x.rule(1, 0, 2, 2, 32);
                x.silent(2, true);
            } else if (result == 6) {
                x.rule(1, 0, 6, 2, 0);
            }
            x.policy(1, 2, 2, 3, 100);
            x.mail(1, 1, HERE);
            Due.is("result " + result, x.judge(0), result == 1 ? 4 : 2);
            Due.is("in the report", x.row(0, 3), result);
        }
    }

    /** Promise 20: or when some signature checks as 1 (and nothing else). */
    private static void onlyOneAgrees() {
        MailArbiter x = withDomains();
        x.policy(2, 2, 2, 3, 100);
        x.mail(4, 2, 0);
        x.sign(2, 0, 255, -1, 2);
        Due.is("1", x.judge(0), 4);
        x.spoil(0, 1);
        Due.is("2", x.judge(0), 2);
        x.spoil(0, -1);
        x.tick(1);
        Due.is("1 again", x.judge(0), 4);
        x.key(2, 0, 0);
        Due.is("6, without a key", x.judge(0), 2);
        x.key(2, 0, 12);
        x.tick(1);
        Due.is("6, expired", x.judge(0), 2);
        MailArbiter y = withDomains();
        y.policy(2, 2, 2, 0, 100);
        y.mail(4, 2, 0);
        y.sign(3, 0, 255, -1, -1);
        Due.is("1 by its sister", y.judge(0), 4);
        y.silent(3, true);
        Due.is("5", y.judge(0), 2);
    }

    /** Promise 20: and the sender is the author (however strict). */
    private static void theSenderIsTheAuthor() {
        for (int strict = 0; strict <= 3; strict++) {
            for (int d = 0; d < 5; d++) {
                MailArbiter x = withDomains();
                x.policy(d, 2, 2, strict, 100);
                x.mail(d, d, HERE);
                Due.is("strict " + strict + ", domain " + d, x.judge(0), 4);
                x.mail(d, d, 0);
                x.sign(d, 0, 0, -1, -1);
                Due.is("signed, strict " + strict + ", domain " + d, x.judge(0), 4);
            }
        }
    }

    /** Promise 20: or (not strict for the sender) has the same home. */
    private static void theSenderHasTheSameHome() {
        MailArbiter x = withDomains();
        for (int author = 0; author < 5; author++) {
            x.policy(author, 2, 2, 0, 100);
            for (int sender = 0; sender < 5; sender++) {
                x.mail(sender, author, HERE);
                boolean same = x.home(sender) == x.home(author);
                Due.is("sender " + sender + ", author " + author, x.judge(0), same ? 4 : 2);
            }
        }
    }

    /** Promise 20: some signature: there may be none. */
    private static void noSignatures() {
        MailArbiter x = withDomains();
        x.policy(1, 2, 2, 0, 100);
        x.mail(4, 1, 0);
        Due.is("none", x.judge(0), 2);
        x.link(1, 0);
        Due.is("that of a link is none of them", x.judge(0), 2);
        x.sign(1, 0, 0, -1, -1);
        Due.is("one", x.judge(0), 4);
        x.mail(4, 1, 0);
        Due.is("none in a new mail", x.judge(0), 2);
    }

    /** Promise 20: some signature: each of the three. */
    private static void theThirdSignature() {
        for (int good = 0; good < 3; good++) {
            MailArbiter x = withDomains();
            x.policy(2, 2, 2, 1, 100);
            x.mail(4, 2, 0);
            for (int k = 0; k < 3; k++) {
                x.sign(k == good ? 2 : 3, 0, 0, -1, -1);
            }
            Due.is("signature " + good, x.judge(0), 4);
            x.spoil(good, 1);
            Due.is("spoilt " + good, x.judge(0), 2);
        }
    }

    /** Promise 20: without one it is as if it were nothing, not strict, with the part 100. */
    private static void withoutAPolicy() {
        MailArbiter x = withDomains();
        x.policy(0, 2, 2, 3, 0);
        x.policy(3, 2, 2, 3, 0);
        x.policy(4, 2, 2, 3, 0);
        x.mail(4, 2, 0);
        Due.is("nothing, draw 0", x.judge(0), 0);
        Due.is("nothing, draw 99", x.judge(99), 0);
        x.mail(1, 2, HERE);
        Due.is("not strict for the sender", x.judge(99), 4);
        x.mail(4, 2, 0);
        x.sign(1, 0, 0, -1, -1);
        Due.is("not strict for signatures", x.judge(99), 4);
    }

    /**
     * Promise 20: that of its home (then what is below counts, if that is another domain): a home's own one
     * is its own.
     */
    private static void itsHomeIsItself() {
        for (int author : new int[] {0, 1, 4}) {
            MailArbiter x = withDomains();
            x.mail(author == 4 ? 1 : 4, author, 0);
            x.policy(author, 1, 2, 0, 100);
            Due.is("own of " + author, x.judge(0), 1);
            x.policy(author, 0, 2, 0, 100);
            Due.is("own of " + author + ", nothing", x.judge(0), 0);
            x.policy(author, -1, 2, 0, 100);
            Due.is("none of " + author, x.judge(0), 0);
        }
    }

    /** Promise 20: The policy is the author's own one, or else that of its home (then what is below counts). */
    private static void belowOfItsHome() {
        for (int own = 0; own <= 2; own++) {
            for (int below = 0; below <= 2; below++) {
                MailArbiter x = withDomains();
                x.mail(4, 2, 0);
                x.policy(1, own, below, 0, 100);
                Due.is("own " + own + ", below " + below, x.judge(0), below);
                x.policy(2, own, below, 0, 100);
                Due.is("with its own", x.judge(0), own);
            }
        }
        MailArbiter y = withDomains();
        y.domain(2, false);
        y.mail(4, 5, 0);
        y.policy(2, 2, 2, 0, 100);
        Due.is("its parent's, which is no home, does not count", y.judge(0), 0);
    }

    /** Promise 20: or if the author is silent, it is as if it were nothing, not strict, with the part 100. */
    private static void theAuthorIsSilent() {
        MailArbiter x = withDomains();
        x.policy(1, 2, 2, 3, 0);
        x.policy(2, 2, 2, 3, 0);
        x.mail(1, 2, 0);
        Due.is("not silent", x.judge(0), 1);
        x.silent(2, true);
        Due.is("nothing", x.judge(0), 0);
        x.mail(1, 2, HERE);
        Due.is("not strict for the sender", x.judge(0), 4);
        x.mail(1, 2, 0);
        x.sign(1, 0, 0, -1, -1);
        Due.is("not strict for signatures", x.judge(0), 4);
        x.silent(2, false);
        Due.is("strict again", x.judge(0), 1);
        Due.is("the home in the report", x.row(0, 0), 1);
    }

    /** Promise 20: or its home is silent (but not another above). */
    private static void itsHomeIsSilent() {
        for (int d = 0; d < 5; d++) {
            MailArbiter x = withDomains();
            x.policy(2, 2, 2, 3, 100);
            x.policy(1, 2, 2, 3, 100);
            x.mail(4, 2, 0);
            x.silent(d, true);
            Due.is("its own, silent " + d, x.judge(0), d == 1 || d == 2 ? 0 : 2);
            x.policy(2, -1, 0, 0, 0);
            Due.is("its home's, silent " + d, x.judge(0), d == 1 || d == 2 ? 0 : 2);
        }
    }

    /** Promise 20: one less when draw is the part or more. */
    private static void drawIsThePart() {
        for (int part : new int[] {0, 1, 2, 50, 98, 99, 100}) {
            MailArbiter x = withDomains();
            x.mail(4, 2, 0);
            x.policy(1, 0, 2, 0, part);
            for (int draw : new int[] {part - 1, part, part + 1}) {
                if (draw >= 0 && draw <= 99) {
                    Due.is("part " + part + ", draw " + draw, x.judge(draw), draw < part ? 2 : 1);
                }
            }
        }
    }

    /** Promise 20: (not below nothing). */
    private static void notBelowNothing() {
        MailArbiter x = withDomains();
        x.mail(4, 1, 0);
        int[] dues = {0, 0, 1};
        for (int own = 0; own <= 2; own++) {
            x.policy(1, own, 0, 0, 0);
            Due.is("own " + own + ", draw 0", x.judge(0), dues[own]);
            Due.is("own " + own + ", draw 99", x.judge(99), dues[own]);
            x.policy(1, own, 0, 0, 99);
            Due.is("own " + own + ", part 99", x.judge(99), dues[own]);
        }
    }

    /** Promise 20: nothing if it agrees; and 4 more when it agrees. */
    private static void itAgreesWhateverIsDrawn() {
        for (int part : new int[] {0, 100}) {
            MailArbiter x = withDomains();
            x.policy(1, 2, 2, 3, part);
            x.mail(1, 1, HERE);
            Due.is("part " + part + ", draw 0", x.judge(0), 4);
            Due.is("part " + part + ", draw 99", x.judge(99), 4);
            Due.is("nothing was done", x.row(0, 2), 0);
            Due.is("twice", x.row(0, 4), 2);
        }
    }

    private static void row(MailArbiter x, int k, int... due) {
        for (int what = 0; what < due.length; what++) {
            Due.is("row(" + k + ", " + what + ")", x.row(k, what), due[what]);
        }
    }

    /**
     * Promise 20: by the author's home, the mail's address, what is done, and the sender's result; a new
     * row comes when there is none such.
     */
    private static void rowsByFourThings() {
        MailArbiter x = withDomains();
        x.mail(4, 2, 0);
        x.judge(0);
        row(x, 0, 1, 0, 0, 4, 1);
        x.mail(4, 3, 0);
        x.judge(0);
        row(x, 0, 1, 0, 0, 4, 2);
        Due.is("another author of the same home, the same row", x.row(1, 4), -1);
        x.mail(3, 3, 0);
        x.judge(0);
        row(x, 0, 1, 0, 0, 4, 3);
        Due.is("another sender with the same result, the same row", x.row(1, 4), -1);
        x.mail(4, 4, 0);
        x.judge(0);
        row(x, 1, 4, 0, 0, 4, 1);
        x.mail(4, 2, 1);
        x.judge(0);
        row(x, 2, 1, 1, 0, 4, 1);
        x.policy(1, 0, 1, 0, 100);
        x.judge(0);
        row(x, 3, 1, 1, 1, 4, 1);
        x.silent(4, true);
        x.judge(0);
        row(x, 4, 1, 1, 1, 5, 1);
        row(x, 0, 1, 0, 0, 4, 3);
        Due.is("five rows", x.row(5, 0), -1);
    }

    /** Promise 20: (with 12 rows it is not counted). */
    private static void twelveRows() {
        MailArbiter x = withDomains();
        x.policy(2, 2, 2, 0, 100);
        for (int i = 0; i < 12; i++) {
            Due.is("no row " + i + " yet", x.row(i, 4), -1);
            x.mail(4, 2, 100 + i);
            Due.is("judge " + i, x.judge(0), 2);
            row(x, i, 1, 100 + i, 2, 4, 1);
        }
        x.mail(4, 2, 200);
        Due.is("a thirteenth is judged all the same", x.judge(0), 2);
        Due.is("and a fourteenth", x.judge(0), 2);
        Due.is("it has no row", x.row(12, 4), -1);
        for (int i = 0; i < 12; i++) {
            row(x, i, 1, 100 + i, 2, 4, 1);
        }
        for (int i = 0; i < 12; i += 11) {
            x.mail(4, 2, 100 + i);
            x.judge(0);
            Due.is("one that has a row is counted, " + i, x.row(i, 4), 2);
        }
        x.mail(1, 2, HERE);
        Due.is("one that agrees", x.judge(0), 4);
        Due.is("has no row either", x.row(12, 4), -1);
    }

    /** Promise 21: NONE when there is none (row k, from 0, as they came). */
    private static void noSuchRow() {
        for (int what = 0; what < 5; what++) {
            int w = what;
            Refused.noneEver("row(-1, " + w + ")", x -> x.row(-1, w));
            Refused.noneEver("row(12, " + w + ")", x -> x.row(12, w));
            Refused.none("row(0, " + w + ")", Given::nothing, x -> x.row(0, w));
            Refused.none("row(1, " + w + ")", Given::someOfAll, x -> x.row(1, w));
            for (int far : Given.FAR) {
                Refused.noneEver("row(" + far + ", " + w + ")", x -> x.row(far, w));
            }
        }
        MailArbiter x = new MailArbiter();
        Given.fullOfAll(x);
        Due.is("row 0", x.row(0, 1), 100);
        Due.is("row 11", x.row(11, 1), 111);
    }

    /** Promise 21: NONE for another what. */
    private static void anotherWhat() {
        for (int k = -1; k <= 12; k++) {
            int row = k;
            Refused.noneEver("row(" + k + ", -1)", x -> x.row(row, -1));
            Refused.noneEver("row(" + k + ", 5)", x -> x.row(row, 5));
        }
        for (int far : Given.FAR) {
            Refused.noneEver("row(0, " + far + ")", x -> x.row(0, far));
        }
        MailArbiter x = withDomains();
        x.mail(4, 4, -5);
        x.judge(0);
        row(x, 0, 4, -5, 0, 4, 1);
    }

    /** Promise 21: how often (4): from 1 up. */
    private static void howOften() {
        MailArbiter x = withDomains();
        x.mail(4, 4, 0);
        for (int i = 1; i <= 200; i++) {
            x.judge(i % 100);
            Due.is("how often", x.row(0, 4), i);
        }
        x.sender();
        x.judge(-1);
        x.judge(100);
        Due.is("neither sender nor what is refused is counted", x.row(0, 4), 200);
    }
}
