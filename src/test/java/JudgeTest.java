/** Promises 20 and 21: judge, row. */
public final class JudgeTest {
    public static void main(String[] args) {
        draws();
        senderAgrees();
        signaturesAgree();
        whosePolicy();
        silenceTakesThePolicyAway();
        parts();
        theReport();
        theReportIsFull();
        Due.end();
    }

    private static MailArbiter withDomains() {
        MailArbiter x = new MailArbiter();
        Given.familyOfFive(x);
        for (int d = 0; d < 5; d++) {
            x.key(d, 0, 10 + d);
        }
        return x;
    }

    private static void draws() {
        MailArbiter x = withDomains();
        Due.is("no mail", x.judge(0), -1);
        x.mail(1, 1, 0);
        Due.is("draw -1", x.judge(-1), -1);
        Due.is("draw 100", x.judge(100), -1);
        Due.is("refused ones are not in the report", x.row(0, 4), -1);
        Due.is("draw 0", x.judge(0), 0);
        Due.is("draw 99", x.judge(99), 0);
        Due.is("both are", x.row(0, 4), 2);
    }

    private static void senderAgrees() {
        MailArbiter x = withDomains();
        x.policy(1, 2, 2, 0, 100);
        for (int d = 0; d < 5; d++) {
            x.rule(d, 0, 1, 7, 32);
            x.rule(d, 2, 0, 0, 0);
        }
        int[] loose = {2, 4, 4, 4, 2};
        int[] strict = {2, 2, 4, 2, 2};
        for (int s = 0; s < 5; s++) {
            x.policy(1, 2, 2, 0, 100);
            x.mail(s, 2, 7);
            Due.is("sender " + s, x.judge(0), loose[s]);
            x.policy(1, 2, 2, 1, 100);
            Due.is("sender " + s + ", strict for signatures", x.judge(0), loose[s]);
            x.policy(1, 2, 2, 2, 100);
            Due.is("sender " + s + ", strict for the sender", x.judge(0), strict[s]);
            x.mail(s, 2, 8);
            Due.is("sender " + s + " without pass", x.judge(0), 2);
        }
    }

    private static void signaturesAgree() {
        MailArbiter x = withDomains();
        int[] loose = {2, 4, 4, 4, 2};
        int[] strict = {2, 2, 4, 2, 2};
        for (int s = 0; s < 5; s++) {
            x.mail(4, 2, 7);
            x.sign(s, 0, 0, -1, -1);
            x.policy(1, 2, 2, 0, 100);
            Due.is("signed by " + s, x.judge(0), loose[s]);
            x.policy(1, 2, 2, 2, 100);
            Due.is("signed by " + s + ", strict for the sender", x.judge(0), loose[s]);
            x.policy(1, 2, 2, 1, 100);
            Due.is("signed by " + s + ", strict for signatures", x.judge(0), strict[s]);
            x.spoil(0, 1);
            Due.is("spoilt, by " + s, x.judge(0), 2);
        }
        x.policy(1, 2, 2, 3, 100);
        x.mail(4, 2, 7);
        x.sign(4, 0, 0, -1, -1);
        x.sign(2, 0, 0, -1, -1);
        x.spoil(1, 1);
        Due.is("the one that would do is spoilt", x.judge(0), 2);
        x.sign(2, 0, 0, -1, -1);
        Due.is("the third does", x.judge(0), 4);
        x.mail(4, 2, 7);
        Due.is("those of the mail before do not", x.judge(0), 2);
    }

    private static void whosePolicy() {
        MailArbiter x = withDomains();
        x.mail(4, 2, 7);
        Due.is("none", x.judge(0), 0);
        x.policy(1, 1, 2, 0, 100);
        Due.is("below of the home", x.judge(0), 2);
        x.policy(0, 2, 2, 0, 100);
        x.policy(1, -1, 0, 0, 0);
        Due.is("not of the home's parent", x.judge(0), 0);
        x.policy(1, 1, 2, 0, 100);
        x.policy(2, 1, 2, 0, 100);
        Due.is("own of its own", x.judge(0), 1);
        x.policy(2, 0, 2, 0, 100);
        Due.is("even when that is nothing", x.judge(0), 0);
        x.mail(4, 1, 7);
        Due.is("own of the home itself", x.judge(0), 1);
        x.mail(4, 3, 7);
        Due.is("its sister's does not count", x.judge(0), 2);
        x.mail(4, 0, 7);
        Due.is("own of the suffix itself", x.judge(0), 2);
        x.policy(0, -1, 0, 0, 0);
        Due.is("a suffix without one", x.judge(0), 0);
    }

    private static void silenceTakesThePolicyAway() {
        MailArbiter x = withDomains();
        x.policy(1, 2, 2, 3, 0);
        x.policy(2, 2, 2, 3, 100);
        x.mail(4, 2, 7);
        x.sign(3, 0, 0, -1, -1);
        Due.is("strict", x.judge(0), 2);
        x.silent(0, true);
        Due.is("a silent suffix does not count", x.judge(0), 2);
        x.silent(1, true);
        Due.is("a silent home: not strict", x.judge(0), 4);
        x.spoil(0, 1);
        Due.is("a silent home: nothing", x.judge(99), 0);
        x.silent(1, false);
        x.silent(2, true);
        Due.is("a silent author: nothing", x.judge(0), 0);
        x.silent(2, false);
        Due.is("refuse again", x.judge(0), 2);
    }

    private static void parts() {
        MailArbiter x = withDomains();
        x.mail(4, 1, 7);
        for (int own = 0; own < 3; own++) {
            x.policy(1, own, 0, 0, 100);
            Due.is("part 100, draw 99", x.judge(99), own);
            x.policy(1, own, 0, 0, 30);
            Due.is("part 30, draw 29", x.judge(29), own);
            Due.is("part 30, draw 30", x.judge(30), Math.max(own - 1, 0));
            x.policy(1, own, 0, 0, 0);
            Due.is("part 0, draw 0", x.judge(0), Math.max(own - 1, 0));
        }
        x.policy(1, 2, 0, 0, 0);
        x.sign(1, 0, 0, -1, -1);
        Due.is("it agrees, draw 99", x.judge(99), 4);
    }

    private static void row(MailArbiter x, int k, int... due) {
        for (int what = 0; what < due.length; what++) {
            Due.is("row(" + k + ", " + what + ")", x.row(k, what), due[what]);
        }
    }

    private static void theReport() {
        MailArbiter x = withDomains();
        x.mail(4, 3, -9);
        x.judge(0);
        row(x, 0, 1, -9, 0, 0, 1);
        x.mail(0, 2, -9);
        x.judge(5);
        row(x, 0, 1, -9, 0, 0, 2);
        x.policy(1, 0, 1, 0, 100);
        x.judge(0);
        row(x, 1, 1, -9, 1, 0, 1);
        x.sign(1, 0, 0, -1, -1);
        Due.is("it agrees", x.judge(0), 4);
        row(x, 0, 1, -9, 0, 0, 3);
        x.rule(0, 1, 0, 0, 0);
        x.judge(0);
        row(x, 2, 1, -9, 0, 2, 1);
        x.mail(0, 4, -9);
        x.judge(0);
        row(x, 3, 4, -9, 0, 2, 1);
        x.mail(0, 4, 9);
        x.judge(0);
        row(x, 4, 4, 9, 0, 2, 1);
        Due.is("row(5, 0)", x.row(5, 0), -1);
        Due.is("row(-1, 0)", x.row(-1, 0), -1);
        Due.is("row(0, -1)", x.row(0, -1), -1);
        Due.is("row(0, 5)", x.row(0, 5), -1);
        Due.is("sender() is not counted", x.sender(), 2);
        row(x, 4, 4, 9, 0, 2, 1);
    }

    private static void theReportIsFull() {
        MailArbiter x = withDomains();
        for (int i = 0; i < 14; i++) {
            x.mail(4, 3, 100 + i);
            Due.is("judge " + i, x.judge(0), 0);
        }
        Due.is("the twelfth", x.row(11, 1), 111);
        Due.is("no thirteenth", x.row(12, 1), -1);
        x.mail(4, 3, 105);
        x.judge(0);
        row(x, 5, 1, 105, 0, 0, 2);
        row(x, 11, 1, 111, 0, 0, 1);
    }
}
