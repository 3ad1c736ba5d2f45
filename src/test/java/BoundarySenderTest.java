/** The boundary cases of TO CHECK an address by a domain, and of the promises 16 and 17, sender and counted. */
public final class BoundarySenderTest {
    private static final int HERE = 77;

    public static void main(String[] args) {
        noMail();
        notByItsAuthor();
        silent();
        noRule();
        noneMatches();
        theFirstThatMatches();
        noRedirectOrOne();
        agreeInALength();
        tenLookups();
        elevenLookups();
        theEleventhIsNotAsked();
        whatIsNoLookup();
        aCircle();
        silentBeforeEmpty();
        oneOrTwoAddresses();
        exchangersOneByOne();
        existingAtAll();
        threeEmpties();
        emptiesBelow();
        theThirdOnTheTenth();
        included();
        redirected();
        countedBefore();
        countedAnotherWhat();
        countedByTheLatest();
        countedAfterARefusal();
        Due.end();
    }

    /** Domains below the first, and a mail from 1; 2 has an address that is not the mail's, 4 has all that is. */
    private static MailArbiter withMail() {
        MailArbiter x = new MailArbiter();
        Given.domains(x, 10);
        x.mail(1, 1, HERE);
        x.host(2, 0, HERE + 1);
        x.host(4, 0, HERE);
        x.host(4, 1, 4);
        x.rule(4, 0, Kind.ALL, 0, 0);
        return x;
    }

    /** Promise 16: NONE when there is no mail. */
    private static void noMail() {
        Refused.none("sender() of a new object", Given::nothing, x -> x.sender());
        Refused.none("sender() with domains", x -> Given.domains(x, 20), x -> x.sender());
        MailArbiter x = new MailArbiter();
        Given.domains(x, 1);
        x.mail(0, 0, 0);
        Due.is("with a mail", x.sender(), 0);
    }

    /** Promise 16: by its sender (and the author does not count). */
    private static void notByItsAuthor() {
        MailArbiter x = withMail();
        x.mail(1, 4, HERE);
        Due.is("the author has a rule", x.sender(), 0);
        x.silent(4, true);
        Due.is("the author is silent", x.sender(), 0);
        x.mail(4, 1, HERE);
        Due.is("the sender is", x.sender(), 5);
        x.silent(4, false);
        Due.is("the sender has a rule", x.sender(), 1);
    }

    /** Terms: 5 if it is silent; none if it has no rule. */
    private static void silent() {
        MailArbiter x = withMail();
        x.silent(1, true);
        Due.is("silent without a rule", x.sender(), 5);
        x.rule(1, 0, Kind.ALL, 0, 0);
        Due.is("silent with a rule", x.sender(), 5);
        Due.is("no lookup is counted", x.counted(0), 0);
        x.silent(1, false);
        Due.is("no longer", x.sender(), 1);
        x.silent(0, true);
        Due.is("its parent is", x.sender(), 1);
    }

    /** Terms: none if it has no rule. */
    private static void noRule() {
        MailArbiter x = withMail();
        x.host(1, 0, HERE);
        x.host(1, 1, 1);
        x.key(1, 0, 5);
        x.policy(1, 2, 2, 3, 0);
        Due.is("all but a rule", x.sender(), 0);
    }

    /** Terms: When none does: the redirect, if there is one; otherwise neutral. */
    private static void noneMatches() {
        MailArbiter x = withMail();
        for (int i = 0; i < 6; i++) {
            x.rule(1, i % 3, Kind.ADDRESS, i, 32);
            Due.is("none of " + (i + 1), x.sender(), 4);
        }
    }

    /** Terms: the first that MATCHES decides. */
    private static void theFirstThatMatches() {
        for (int at = 0; at < 6; at++) {
            MailArbiter x = withMail();
            for (int i = 0; i < 6; i++) {
                x.rule(1, i == at ? 2 : i < at ? 0 : 1, Kind.ADDRESS, i < at ? 0 : HERE, 32);
            }
            x.rule(1, 0, Kind.REDIRECT, 4, 0);
            Due.is("term " + at, x.sender(), 3);
            Due.is("the redirect is not asked", x.counted(0), 0);
        }
    }

    /** Terms: perhaps a REDIRECT. */
    private static void noRedirectOrOne() {
        MailArbiter x = withMail();
        x.rule(1, 1, Kind.ADDRESS, 0, 32);
        Due.is("without", x.sender(), 4);
        x.rule(1, 0, Kind.REDIRECT, 4, 0);
        Due.is("with", x.sender(), 1);
        MailArbiter y = withMail();
        y.rule(1, 0, Kind.REDIRECT, 0, 0);
        Due.is("to domain 0, that has no rule", y.sender(), 6);
        y.rule(0, 1, Kind.ALL, 0, 0);
        Due.is("to domain 0", y.sender(), 2);
    }

    /** Terms: Two addresses AGREE in a length when that many of their highest bits are the same. */
    private static void agreeInALength() {
        for (int length = 0; length <= 32; length++) {
            agree(length, -1, 0, length == 0);
            agree(length, 0, 0, true);
            agree(length, -1, -1, true);
            agree(length, Integer.MIN_VALUE, 0, length == 0);
            agree(length, Integer.MIN_VALUE, Integer.MAX_VALUE, length == 0);
            agree(length, 1, 0, length <= 31);
            agree(length, -2, -1, length <= 31);
            agree(length, 2, 1, length <= 30);
            agree(length, 0x40000000, 0, length <= 1);
            agree(length, Integer.MIN_VALUE, -1, length <= 1);
            if (length > 0 && length < 32) {
                agree(length, 1 << (32 - length), 0, false);
                agree(length, 1 << (31 - length), 0, true);
            }
        }
    }

    private static void agree(int length, int a, int b, boolean due) {
        for (int kind = Kind.ADDRESS; kind <= Kind.EXCHANGERS; kind++) {
            MailArbiter x = new MailArbiter();
            Given.domains(x, 3);
            x.host(1, 0, a);
            x.host(2, 1, 1);
            x.rule(0, 0, kind, kind == Kind.ADDRESS ? a : kind == Kind.ADDRESSES ? 1 : 2, length);
            x.mail(0, 0, b);
            Due.is(a + " and " + b + " in " + length + ", kind " + kind, x.sender(), due ? 1 : 4);
        }
    }

    /** So many lookups that match nothing, over two domains, and then one more of a kind at domain d. */
    private static MailArbiter afterLookups(int count, int kind, int d) {
        MailArbiter x = withMail();
        for (int i = 0; i < 6; i++) {
            x.rule(1, 1, i % 2 == 0 ? Kind.ADDRESSES : Kind.EXCHANGERS, i % 2 == 0 ? 2 : 5, 32);
        }
        x.host(5, 1, 2);
        x.rule(1, 1, Kind.REDIRECT, 3, 0);
        for (int i = 7; i < count; i++) {
            x.rule(3, 1, Kind.ADDRESSES, 2, 32);
        }
        x.rule(3, 0, kind, d, 32);
        return x;
    }

    /** Terms: The kinds 2 to 5 and the redirect are LOOKUPS; (the tenth does not end it) */
    private static void tenLookups() {
        for (int kind = Kind.ADDRESSES; kind <= Kind.REDIRECT; kind++) {
            MailArbiter x = afterLookups(9, kind, 4);
            Due.is("the tenth, kind " + kind, x.sender(), 1);
            Due.is("lookups, kind " + kind, x.counted(0), 10);
            Due.is("judged too", x.judge(0), 4);
            Due.is("lookups of judge", x.counted(0), 10);
        }
    }

    /** Terms: with the 11th in the whole check it ends at once with 6. */
    private static void elevenLookups() {
        for (int kind = Kind.ADDRESSES; kind <= Kind.REDIRECT; kind++) {
            MailArbiter x = afterLookups(10, kind, 4);
            Due.is("the eleventh, kind " + kind, x.sender(), 6);
            Due.is("lookups, kind " + kind, x.counted(0), 11);
            Due.is("judged too", x.judge(0), 0);
            Due.is("lookups of judge", x.counted(0), 11);
            Due.is("the result in the report", x.row(0, 3), 6);
        }
    }

    /** Terms: with the 11th it ends at once: neither silent nor EMPTY is asked of its domain. */
    private static void theEleventhIsNotAsked() {
        for (int kind = Kind.ADDRESSES; kind <= Kind.REDIRECT; kind++) {
            MailArbiter x = afterLookups(10, kind, 6);
            x.silent(6, true);
            Due.is("the eleventh is silent, kind " + kind, x.sender(), 6);
            MailArbiter y = afterLookups(10, kind, 6);
            Due.is("the eleventh is empty, kind " + kind, y.sender(), 6);
            Due.is("empties, kind " + kind, y.counted(1), 0);
            MailArbiter z = afterLookups(9, kind, 6);
            z.silent(6, true);
            Due.is("the tenth is silent, kind " + kind, z.sender(), 5);
        }
    }

    /** Terms: The kinds 2 to 5 and the redirect are LOOKUPS (the kinds 0 and 1 are none). */
    private static void whatIsNoLookup() {
        MailArbiter x = afterLookups(10, Kind.ADDRESS, HERE);
        Due.is("ten and an address", x.sender(), 1);
        Due.is("ten are counted", x.counted(0), 10);
        MailArbiter y = afterLookups(10, Kind.ALL, 0);
        Due.is("ten and all", y.sender(), 1);
        Due.is("ten are counted too", y.counted(0), 10);
        MailArbiter z = afterLookups(10, Kind.ADDRESS, 0);
        Due.is("ten and an address that does not agree", z.sender(), 4);
    }

    /** Terms: in the whole check, that of a circle too. */
    private static void aCircle() {
        for (int kind : new int[] {Kind.INCLUDING, Kind.REDIRECT}) {
            MailArbiter x = withMail();
            x.rule(1, 0, kind, 1, 0);
            Due.is("itself, kind " + kind, x.sender(), 6);
            Due.is("lookups", x.counted(0), 11);
            MailArbiter y = withMail();
            y.rule(1, 0, kind, 3, 0);
            y.rule(3, 0, kind, 1, 0);
            Due.is("one another, kind " + kind, y.sender(), 6);
            Due.is("lookups of both", y.counted(0), 11);
        }
        MailArbiter wide = withMail();
        for (int i = 0; i < 6; i++) {
            wide.rule(1, 0, Kind.INCLUDING, 1, 0);
        }
        Due.is("six times itself", wide.sender(), 6);
        Due.is("ends as soon", wide.counted(0), 11);
    }

    /** Terms: 5, at once, if the domain is silent; without addresses it is EMPTY. */
    private static void silentBeforeEmpty() {
        for (int kind : new int[] {Kind.ADDRESSES, Kind.EXCHANGERS, Kind.EXISTING}) {
            MailArbiter x = withMail();
            x.rule(1, 0, kind, 6, 32);
            x.rule(1, 0, Kind.ALL, 0, 0);
            x.silent(6, true);
            Due.is("silent and empty, kind " + kind, x.sender(), 5);
            Due.is("not counted as empty", x.counted(1), 0);
            Due.is("but as a lookup", x.counted(0), 1);
            x.silent(6, false);
            Due.is("empty, kind " + kind, x.sender(), 1);
            Due.is("counted as empty", x.counted(1), 1);
            x.host(6, 0, HERE);
            x.host(6, 1, 6);
            x.silent(6, true);
            Due.is("silent and matching, kind " + kind, x.sender(), 5);
            MailArbiter y = withMail();
            y.rule(1, 2, Kind.ALL, 0, 0);
            y.rule(1, 0, kind, 6, 32);
            y.silent(6, true);
            Due.is("silent behind one that matches", y.sender(), 3);
        }
    }

    /** Terms: without addresses it is EMPTY; it matches when one of them agrees. */
    private static void oneOrTwoAddresses() {
        MailArbiter x = withMail();
        x.rule(1, 1, Kind.ADDRESSES, 6, 32);
        Due.is("without", x.sender(), 4);
        Due.is("empty", x.counted(1), 1);
        x.host(6, 1, 4);
        Due.is("with an exchanger alone", x.sender(), 4);
        Due.is("empty still", x.counted(1), 1);
        x.host(6, 0, HERE - 1);
        Due.is("one that does not agree", x.sender(), 4);
        Due.is("empty no longer", x.counted(1), 0);
        x.host(6, 0, HERE);
        Due.is("the second agrees", x.sender(), 2);
        MailArbiter y = withMail();
        y.rule(1, 1, Kind.ADDRESSES, 6, 32);
        y.host(6, 0, HERE);
        y.host(6, 0, HERE - 1);
        Due.is("the first agrees", y.sender(), 2);
        MailArbiter z = withMail();
        z.mail(1, 1, 0);
        z.rule(1, 1, Kind.ADDRESSES, 2, 32);
        Due.is("a second that is not there is not address 0", z.sender(), 4);
        MailArbiter any = withMail();
        any.rule(1, 1, Kind.ADDRESSES, 6, 0);
        Due.is("length 0 without addresses does not match", any.sender(), 4);
    }

    /**
     * Terms: for each exchanger: 5 if it is silent; it matches when one of its addresses agrees, and the
     * rest are not asked.
     */
    private static void exchangersOneByOne() {
        int[][] dues = {
            // what the first and the second exchanger are: 0 without addresses, 1 not agreeing, 2 agreeing, 3 silent
            {0, 0, 4}, {0, 1, 4}, {0, 2, 2}, {0, 3, 5},
            {1, 0, 4}, {1, 1, 4}, {1, 2, 2}, {1, 3, 5},
            {2, 0, 2}, {2, 1, 2}, {2, 2, 2}, {2, 3, 2},
            {3, 0, 5}, {3, 1, 5}, {3, 2, 5}, {3, 3, 5},
        };
        for (int[] due : dues) {
            MailArbiter x = withMail();
            x.rule(1, 1, Kind.EXCHANGERS, 6, 32);
            x.host(6, 0, HERE);
            x.host(6, 1, 7);
            x.host(6, 1, 8);
            becomes(x, 7, due[0]);
            becomes(x, 8, due[1]);
            Due.is("exchangers " + due[0] + " and " + due[1], x.sender(), due[2]);
            Due.is("neither is EMPTY", x.counted(1), 0);
            Due.is("nor a lookup of its own", x.counted(0), 1);
        }
        MailArbiter without = withMail();
        without.rule(1, 1, Kind.EXCHANGERS, 6, 0);
        without.host(6, 0, HERE);
        Due.is("EMPTY without any", without.sender(), 4);
        Due.is("that is counted", without.counted(1), 1);
        MailArbiter one = withMail();
        one.rule(1, 1, Kind.EXCHANGERS, 6, 32);
        one.host(6, 1, 7);
        one.host(0, 0, HERE);
        Due.is("a second that is not there is not domain 0", one.sender(), 4);
    }

    private static void becomes(MailArbiter x, int d, int what) {
        if (what == 1) {
            x.host(d, 0, HERE + 1);
        } else if (what == 2) {
            x.host(d, 0, HERE + 1);
            x.host(d, 0, HERE);
        } else if (what == 3) {
            x.host(d, 0, HERE);
            x.silent(d, true);
        }
    }

    /** Terms: Existing: 5 if silent; EMPTY without addresses; otherwise it matches. */
    private static void existingAtAll() {
        MailArbiter x = withMail();
        x.rule(1, 1, Kind.EXISTING, 6, 32);
        x.host(6, 1, 4);
        Due.is("without addresses", x.sender(), 4);
        Due.is("empty", x.counted(1), 1);
        x.host(6, 0, ~HERE);
        Due.is("with one, of whatever kind", x.sender(), 2);
        Due.is("empty no longer", x.counted(1), 0);
        x.host(6, 0, ~HERE);
        Due.is("with two", x.sender(), 2);
    }

    /** Terms: With the third EMPTY in the whole check it ends at once with 6. */
    private static void threeEmpties() {
        int[] kinds = {Kind.ADDRESSES, Kind.EXCHANGERS, Kind.EXISTING};
        for (int last : kinds) {
            MailArbiter x = withMail();
            x.rule(1, 0, Kind.ADDRESSES, 6, 32);
            x.rule(1, 0, last, 7, 32);
            x.rule(1, 1, Kind.ALL, 0, 0);
            Due.is("the second, kind " + last, x.sender(), 2);
            Due.is("two are counted", x.counted(1), 2);
            MailArbiter y = withMail();
            y.rule(1, 0, Kind.EXISTING, 6, 32);
            y.rule(1, 0, Kind.EXCHANGERS, 6, 32);
            y.rule(1, 0, last, 7, 32);
            y.rule(1, 1, Kind.ALL, 0, 0);
            Due.is("the third, kind " + last, y.sender(), 6);
            Due.is("three are counted", y.counted(1), 3);
            Due.is("three lookups", y.counted(0), 3);
            Due.is("judged too", y.judge(0), 0);
            Due.is("three are counted by judge", y.counted(1), 3);
        }
    }

    /**
     * Terms: the third EMPTY in the whole check: those below an include and behind a redirect are of the
     * same check.
     */
    private static void emptiesBelow() {
        MailArbiter x = withMail();
        x.rule(1, 0, Kind.ADDRESSES, 6, 32);
        x.rule(1, 0, Kind.INCLUDING, 3, 0);
        x.rule(3, 1, Kind.ADDRESSES, 6, 32);
        x.rule(1, 0, Kind.REDIRECT, 5, 0);
        x.rule(5, 1, Kind.ALL, 0, 0);
        Due.is("two", x.sender(), 2);
        Due.is("two are counted", x.counted(1), 2);
        MailArbiter y = withMail();
        y.rule(1, 0, Kind.ADDRESSES, 6, 32);
        y.rule(1, 0, Kind.INCLUDING, 3, 0);
        y.rule(3, 1, Kind.ADDRESSES, 6, 32);
        y.rule(1, 0, Kind.REDIRECT, 5, 0);
        y.rule(5, 1, Kind.EXISTING, 6, 32);
        y.rule(5, 1, Kind.ALL, 0, 0);
        Due.is("the third behind a redirect", y.sender(), 6);
        Due.is("three are counted", y.counted(1), 3);
    }

    /** Both limits at once: the third EMPTY may be the tenth lookup, and is then counted as both. */
    private static void theThirdOnTheTenth() {
        MailArbiter x = withMail();
        for (int i = 0; i < 4; i++) {
            x.rule(1, 1, Kind.ADDRESSES, 2, 32);
            x.rule(3, 1, Kind.ADDRESSES, i < 2 ? 2 : 6, 32);
        }
        x.rule(1, 1, Kind.REDIRECT, 3, 0);
        x.rule(3, 1, Kind.EXISTING, 6, 32);
        Due.is("the third EMPTY", x.sender(), 6);
        Due.is("ten lookups", x.counted(0), 10);
        Due.is("three empties", x.counted(1), 3);
    }

    /** What domain 3 gives when it is checked, for each of the results 0 to 6. */
    private static MailArbiter withResult(int result) {
        MailArbiter x = withMail();
        if (result >= 1 && result <= 4) {
            x.rule(3, result - 1, Kind.ALL, 0, 0);
        } else if (result == 5) {
            x.silent(3, true);
        } else if (result == 6) {
            x.rule(3, 0, Kind.REDIRECT, 6, 0);
        }
        return x;
    }

    /**
     * Terms: Including: matches for pass, not for fail, soft fail and neutral; 5 and 6 end the whole check
     * with that, and none with 6.
     */
    private static void included() {
        int[] dues = {6, 3, 2, 2, 2, 5, 6};
        for (int result = 0; result <= 6; result++) {
            MailArbiter x = withResult(result);
            x.rule(1, 2, Kind.INCLUDING, 3, 0);
            x.rule(1, 1, Kind.ALL, 0, 0);
            Due.is("including " + result, x.sender(), dues[result]);
            MailArbiter y = withResult(result);
            y.rule(1, 0, Kind.INCLUDING, 5, 0);
            y.rule(1, 1, Kind.ALL, 0, 0);
            y.rule(5, 0, Kind.INCLUDING, 3, 0);
            y.rule(5, 3, Kind.ALL, 0, 0);
            int due = result == 1 ? 1 : dues[result];
            Due.is("including one that includes " + result, y.sender(), due);
        }
        MailArbiter neutral = withMail();
        neutral.rule(1, 2, Kind.INCLUDING, 3, 0);
        neutral.rule(3, 0, Kind.ADDRESS, 0, 32);
        Due.is("including one of whose terms none matches", neutral.sender(), 4);
    }

    /** Terms: the result is that of checking by it, but 6 for none. */
    private static void redirected() {
        int[] dues = {6, 1, 2, 3, 4, 5, 6};
        for (int result = 0; result <= 6; result++) {
            MailArbiter x = withResult(result);
            x.rule(1, 0, Kind.REDIRECT, 3, 0);
            Due.is("redirected to " + result, x.sender(), dues[result]);
        }
    }

    /** Promise 17: 0 before. */
    private static void countedBefore() {
        MailArbiter x = new MailArbiter();
        Due.is("lookups of a new object", x.counted(0), 0);
        Due.is("empties of a new object", x.counted(1), 0);
        MailArbiter y = withMail();
        y.rule(1, 0, Kind.ADDRESSES, 6, 32);
        y.sign(1, 0, 0, -1, -1);
        y.chain();
        Due.is("lookups before a check", y.counted(0), 0);
        Due.is("empties before a check", y.counted(1), 0);
    }

    private static void endedByBoth(MailArbiter x) {
        Given.domains(x, 5);
        x.mail(1, 1, HERE);
        for (int i = 0; i < 3; i++) {
            x.rule(1, 0, Kind.EXISTING, 2, 0);
        }
    }

    /** Promise 17: 0 for another what. */
    private static void countedAnotherWhat() {
        MailArbiter x = new MailArbiter();
        endedByBoth(x);
        x.sender();
        Due.is("what = 0", x.counted(0), 3);
        Due.is("what = 1", x.counted(1), 3);
        Due.is("what = -1", x.counted(-1), 0);
        Due.is("what = 2", x.counted(2), 0);
        for (int far : Given.FAR) {
            Due.is("what = " + far, x.counted(far), 0);
        }
    }

    /** Promise 17: How many the latest sender() or judge() counted. */
    private static void countedByTheLatest() {
        MailArbiter x = new MailArbiter();
        endedByBoth(x);
        x.sender();
        x.sender();
        Due.is("not the sum of two", x.counted(0), 3);
        Due.is("nor of empties", x.counted(1), 3);
        x.host(2, 0, 1);
        x.judge(0);
        Due.is("judge is the latest", x.counted(0), 1);
        Due.is("its empties", x.counted(1), 0);
        x.silent(1, true);
        Due.is("5 with no lookup", x.sender(), 5);
        Due.is("sender is the latest", x.counted(0), 0);
    }

    /** Promise 17: a refused judge() counted nothing: the latest that did is the one before. */
    private static void countedAfterARefusal() {
        for (int draw : new int[] {-1, 100, Integer.MIN_VALUE, Integer.MAX_VALUE}) {
            MailArbiter x = new MailArbiter();
            endedByBoth(x);
            x.sender();
            x.mail(0, 0, 0);
            Due.is("judge(" + draw + ")", x.judge(draw), -1);
            Due.is("lookups", x.counted(0), 3);
            Due.is("empties", x.counted(1), 3);
        }
    }
}
