/** The boundary cases of the promises 7 and 8: key, policy. Each test tells its sentence. */
public final class BoundaryKeysAndPoliciesTest {
    public static void main(String[] args) {
        noDomainForAKey();
        noSuchSelector();
        noSuchKey();
        zeroTakesItAway();
        eachSelectorHasItsOwn();
        noDomainForAPolicy();
        ownOutOfRange();
        belowOutOfRange();
        strictOutOfRange();
        partOutOfRange();
        theLowestAndTheHighest();
        noneAnyMore();
        theRestDoesNotCount();
        Due.end();
    }

    private static MailArbiter with(int domains) {
        MailArbiter x = new MailArbiter();
        Given.domains(x, domains);
        x.mail(domains - 1, domains - 1, 7);
        return x;
    }

    /** Promise 7: false when there is no such domain. */
    private static void noDomainForAKey() {
        for (int key : new int[] {0, 1, 1000000}) {
            Refused.notEver("domain -1, key " + key, x -> x.key(-1, 0, key));
            Refused.notEver("domain 20, key " + key, x -> x.key(20, 0, key));
            Refused.not("domain 0, key " + key, Given::nothing, x -> x.key(0, 0, key));
            Refused.not("domain 5, key " + key, Given::someOfAll, x -> x.key(5, 0, key));
        }
        for (int far : Given.FAR) {
            Refused.notEver("domain " + far, x -> x.key(far, 0, 1));
        }
        Due.is("the first domain", with(5).key(0, 0, 1), true);
        Due.is("the last domain", with(5).key(4, 0, 1), true);
        Due.is("domain 19", with(20).key(19, 1, 1), true);
    }

    /** Promise 7: false when there is no such selector. (KEYS under the selectors 0 and 1) */
    private static void noSuchSelector() {
        for (int key : new int[] {0, 1, 1000000}) {
            Refused.notEver("selector -1, key " + key, x -> x.key(1, -1, key));
            Refused.notEver("selector 2, key " + key, x -> x.key(1, 2, key));
        }
        for (int far : Given.FAR) {
            Refused.notEver("selector " + far, x -> x.key(1, far, 1));
        }
        Due.is("selector 0", with(2).key(1, 0, 1), true);
        Due.is("selector 1", with(2).key(1, 1, 1), true);
    }

    /** Promise 7: false when there is no such key. (a key is 1 .. 1000000; 0 is none) */
    private static void noSuchKey() {
        for (int selector = 0; selector < 2; selector++) {
            int s = selector;
            Refused.notEver("key -1", x -> x.key(1, s, -1));
            Refused.notEver("key 1000001", x -> x.key(1, s, 1000001));
            for (int far : Given.FAR) {
                Refused.notEver("key " + far, x -> x.key(1, s, far));
            }
            for (int key : new int[] {1, 2, 999999, 1000000}) {
                MailArbiter x = with(2);
                Due.is("key " + key, x.key(1, s, key), true);
                Due.is("it signs", x.sign(1, s, 255, -1, -1), 0);
                Due.is("and checks", x.signature(0), 1);
                x.key(1, s, key - 1);
                Due.is("but not as the next lower", x.signature(0), key == 1 ? 6 : 2);
                Due.is("key 1000001 in its place", x.key(1, s, 1000001), false);
                Due.is("changes nothing", x.signature(0), key == 1 ? 6 : 2);
            }
        }
    }

    /** Promise 7: 0 takes it away: true. */
    private static void zeroTakesItAway() {
        MailArbiter x = with(2);
        Due.is("0 where there is none", x.key(1, 0, 0), true);
        Due.is("there is none still", x.sign(1, 0, 0, -1, -1), -1);
        x.key(1, 0, 9);
        Due.is("a key", x.sign(1, 0, 0, -1, -1), 0);
        Due.is("0", x.key(1, 0, 0), true);
        Due.is("no key to sign with", x.sign(1, 0, 0, -1, -1), -1);
        Due.is("nor to link with", x.link(1, 0), -1);
        Due.is("nor to check with", x.signature(0), 6);
        Due.is("0 once more", x.key(1, 0, 0), true);
        Due.is("the key again", x.key(1, 0, 9), true);
        Due.is("it checks again", x.signature(0), 1);
        Due.is("and signs", x.sign(1, 0, 0, -1, -1), 1);
    }

    /** Terms: KEYS under the selectors 0 and 1, for each domain. */
    private static void eachSelectorHasItsOwn() {
        MailArbiter x = with(20);
        for (int d = 0; d < 20; d++) {
            for (int selector = 0; selector < 2; selector++) {
                x.mail(0, 0, 0);
                Due.is("none yet: " + d + ", " + selector, x.sign(d, selector, 0, -1, -1), -1);
                Due.is("key: " + d + ", " + selector, x.key(d, selector, 1 + d), true);
                Due.is("now: " + d + ", " + selector, x.sign(d, selector, 0, -1, -1), 0);
            }
        }
    }

    /** Promise 8: false when there is no such domain. */
    private static void noDomainForAPolicy() {
        for (int own : new int[] {-1, 0, 2}) {
            Refused.notEver("domain -1, own " + own, x -> x.policy(-1, own, 0, 0, 0));
            Refused.notEver("domain 20, own " + own, x -> x.policy(20, own, 0, 0, 0));
            Refused.not("domain 0, own " + own, Given::nothing, x -> x.policy(0, own, 0, 0, 0));
            Refused.not("domain 5, own " + own, Given::someOfAll, x -> x.policy(5, own, 0, 0, 0));
        }
        for (int far : Given.FAR) {
            Refused.notEver("domain " + far, x -> x.policy(far, 1, 1, 1, 1));
        }
        Due.is("the first domain", with(5).policy(0, 0, 0, 0, 0), true);
        Due.is("the last domain", with(5).policy(4, 0, 0, 0, 0), true);
        Due.is("domain 19", with(20).policy(19, 0, 0, 0, 0), true);
    }

    /**
     * Promise 8: false when a number is out of its range: own, 0 nothing, 1 aside, 2 refuse; -1: none any
     * more.
     */
    private static void ownOutOfRange() {
        Refused.notEver("own -2", x -> x.policy(1, -2, 0, 3, 100));
        Refused.notEver("own 3", x -> x.policy(1, 3, 0, 3, 100));
        for (int far : Given.FAR) {
            Refused.notEver("own " + far, x -> x.policy(1, far, 0, 3, 100));
        }
        for (int own = 0; own <= 2; own++) {
            MailArbiter x = with(2);
            Due.is("own " + own, x.policy(1, own, 1, 0, 100), true);
            Due.is("is done", x.judge(0), own);
        }
    }

    /** Promise 8: false when a number is out of its range: below, 0 to 2; -1 is none such. */
    private static void belowOutOfRange() {
        for (int own = 0; own <= 2; own++) {
            int o = own;
            Refused.notEver("below -1, own " + o, x -> x.policy(1, o, -1, 3, 100));
            Refused.notEver("below 3, own " + o, x -> x.policy(1, o, 3, 3, 100));
        }
        for (int far : Given.FAR) {
            Refused.notEver("below " + far, x -> x.policy(1, 1, far, 3, 100));
        }
        for (int below = 0; below <= 2; below++) {
            MailArbiter x = with(2);
            x.domain(1, false);
            x.mail(2, 2, 7);
            Due.is("below " + below, x.policy(1, 1, below, 0, 100), true);
            Due.is("is done", x.judge(0), below);
        }
    }

    /** Promise 8: strict is 1 for signatures, 2 for the sender, as a sum: so 0 to 3. */
    private static void strictOutOfRange() {
        Refused.notEver("strict -1", x -> x.policy(1, 1, 1, -1, 100));
        Refused.notEver("strict 4", x -> x.policy(1, 1, 1, 4, 100));
        for (int far : Given.FAR) {
            Refused.notEver("strict " + far, x -> x.policy(1, 1, 1, far, 100));
        }
        for (int strict = 0; strict <= 3; strict++) {
            MailArbiter x = with(2);
            x.domain(1, false);
            x.key(1, 0, 5);
            x.rule(1, 0, 1, 7, 32);
            Due.is("strict " + strict, x.policy(2, 2, 2, strict, 100), true);
            x.mail(1, 2, 7);
            Due.is("by the sender, strict " + strict, x.judge(0), strict >= 2 ? 2 : 4);
            x.mail(1, 2, 8);
            x.sign(1, 0, 0, -1, -1);
            Due.is("by a signature, strict " + strict, x.judge(0), strict % 2 == 1 ? 2 : 4);
        }
    }

    /** Promise 8: false when a number is out of its range: a PART from 0 to 100. */
    private static void partOutOfRange() {
        Refused.notEver("part -1", x -> x.policy(1, 1, 1, 3, -1));
        Refused.notEver("part 101", x -> x.policy(1, 1, 1, 3, 101));
        for (int far : Given.FAR) {
            Refused.notEver("part " + far, x -> x.policy(1, 1, 1, 3, far));
        }
        for (int part : new int[] {0, 1, 99, 100}) {
            MailArbiter x = with(2);
            Due.is("part " + part, x.policy(1, 2, 2, 0, part), true);
            for (int draw : new int[] {0, 1, 98, 99}) {
                Due.is("part " + part + ", draw " + draw, x.judge(draw), draw >= part ? 1 : 2);
            }
        }
    }

    /** Promise 8: each number at its lowest and at its highest, together. */
    private static void theLowestAndTheHighest() {
        MailArbiter x = with(2);
        Due.is("the lowest", x.policy(1, 0, 0, 0, 0), true);
        Due.is("nothing", x.judge(0), 0);
        Due.is("the highest", x.policy(1, 2, 2, 3, 100), true);
        Due.is("refuse", x.judge(99), 2);
        Due.is("a refused one", x.policy(1, 0, 0, 4, 0), false);
        Due.is("leaves the one there was", x.judge(99), 2);
    }

    /** Promise 8: own = -1: it has none any more. */
    private static void noneAnyMore() {
        MailArbiter x = with(2);
        x.domain(1, false);
        x.mail(2, 2, 7);
        Due.is("none where there was none", x.policy(2, -1, 0, 0, 0), true);
        Due.is("nothing", x.judge(0), 0);
        x.policy(1, 1, 2, 0, 100);
        x.policy(2, 1, 1, 0, 100);
        Due.is("its own", x.judge(0), 1);
        Due.is("none any more", x.policy(2, -1, 0, 0, 0), true);
        Due.is("its home's", x.judge(0), 2);
        Due.is("the home has none any more", x.policy(1, -1, 0, 0, 0), true);
        Due.is("none at all", x.judge(0), 0);
        Due.is("one again", x.policy(2, 1, 1, 0, 100), true);
        Due.is("it counts", x.judge(0), 1);
    }

    /** Promise 8: own = -1: (the rest does not count). */
    private static void theRestDoesNotCount() {
        int[] odd = {-1, 3, 4, 101, Integer.MIN_VALUE, Integer.MAX_VALUE};
        for (int rest : odd) {
            MailArbiter x = with(2);
            x.policy(1, 2, 2, 0, 100);
            Due.is("below " + rest, x.policy(1, -1, rest, 0, 0), true);
            Due.is("none any more", x.judge(0), 0);
            x.policy(1, 2, 2, 0, 100);
            Due.is("strict " + rest, x.policy(1, -1, 0, rest, 0), true);
            Due.is("none any more", x.judge(0), 0);
            x.policy(1, 2, 2, 0, 100);
            Due.is("part " + rest, x.policy(1, -1, 0, 0, rest), true);
            Due.is("none any more", x.judge(0), 0);
        }
    }
}
