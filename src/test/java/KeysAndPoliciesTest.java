/** Promises 7 and 8: key, policy. */
public final class KeysAndPoliciesTest {
    public static void main(String[] args) {
        keyRanges();
        keysComeAndGo();
        policyRanges();
        policiesComeAndGo();
        Due.end();
    }

    private static MailArbiter withMail() {
        MailArbiter x = new MailArbiter();
        x.domain(-1, false);
        x.domain(0, false);
        x.mail(1, 1, 0);
        return x;
    }

    private static void keyRanges() {
        MailArbiter x = withMail();
        Due.is("no domain", x.key(2, 0, 1), false);
        Due.is("domain -1", x.key(-1, 0, 1), false);
        Due.is("selector -1", x.key(0, -1, 1), false);
        Due.is("selector 2", x.key(0, 2, 1), false);
        Due.is("key -1", x.key(0, 0, -1), false);
        Due.is("key 1000001", x.key(0, 0, 1000001), false);
        Due.is("what is refused is no key", x.sign(0, 0, 0, 0, -1), -1);
        Due.is("key 1000000", x.key(0, 0, 1000000), true);
        Due.is("key 1", x.key(0, 1, 1), true);
        Due.is("key 0 where there is none", x.key(1, 0, 0), true);
        Due.is("key 0 of no domain", x.key(2, 0, 0), false);
    }

    private static void keysComeAndGo() {
        MailArbiter x = withMail();
        x.key(1, 1, 5);
        Due.is("sign under selector 0", x.sign(1, 0, 0, -1, -1), -1);
        Due.is("sign by the other domain", x.sign(0, 1, 0, -1, -1), -1);
        Due.is("sign under selector 1", x.sign(1, 1, 0, -1, -1), 0);
        Due.is("with its key", x.signature(0), 1);
        x.key(1, 1, 6);
        Due.is("with another key", x.signature(0), 2);
        x.key(1, 1, -1);
        Due.is("a refused key changes nothing", x.signature(0), 2);
        x.key(1, 1, 0);
        Due.is("without a key", x.signature(0), 6);
        x.key(1, 0, 5);
        Due.is("with the key under the other selector", x.signature(0), 6);
        x.key(1, 1, 5);
        Due.is("with its key again", x.signature(0), 1);
    }

    private static void policyRanges() {
        MailArbiter x = withMail();
        Due.is("no domain", x.policy(2, 2, 2, 0, 100), false);
        Due.is("domain -1", x.policy(-1, 2, 2, 0, 100), false);
        Due.is("none for no domain", x.policy(2, -1, 0, 0, 0), false);
        Due.is("own -2", x.policy(1, -2, 2, 0, 100), false);
        Due.is("own 3", x.policy(1, 3, 2, 0, 100), false);
        Due.is("below -1", x.policy(1, 2, -1, 0, 100), false);
        Due.is("below 3", x.policy(1, 2, 3, 0, 100), false);
        Due.is("strict -1", x.policy(1, 2, 2, -1, 100), false);
        Due.is("strict 4", x.policy(1, 2, 2, 4, 100), false);
        Due.is("part -1", x.policy(1, 2, 2, 0, -1), false);
        Due.is("part 101", x.policy(1, 2, 2, 0, 101), false);
        Due.is("what is refused is no policy", x.judge(0), 0);
        Due.is("the lowest", x.policy(1, 0, 0, 0, 0), true);
        Due.is("the highest", x.policy(1, 2, 2, 3, 100), true);
        Due.is("judge(99)", x.judge(99), 2);
    }

    private static void policiesComeAndGo() {
        MailArbiter x = withMail();
        x.policy(1, 2, 0, 0, 100);
        Due.is("refuse", x.judge(0), 2);
        Due.is("another in its place", x.policy(1, 1, 0, 0, 100), true);
        Due.is("aside", x.judge(0), 1);
        Due.is("a wrong one", x.policy(1, 2, 0, 0, 101), false);
        Due.is("changes nothing", x.judge(0), 1);
        Due.is("none any more", x.policy(1, -1, 9, -9, 999), true);
        Due.is("nothing", x.judge(0), 0);
        Due.is("none once more", x.policy(1, -1, 0, 0, 0), true);
        Due.is("nothing again", x.judge(0), 0);
    }
}
