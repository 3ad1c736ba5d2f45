/** Promises 6, 16 and 17: rule, sender, counted. */
public final class RuleTest {
    public static void main(String[] args) {
        ranges();
        argumentsThatDoNotCount();
        room();
        signs();
        lengths();
        addressesOfADomain();
        exchangersOfADomain();
        existing();
        including();
        redirects();
        elevenLookups();
        threeEmpties();
        whatIsCounted();
        Due.end();
    }

    /** As many domains as are told, all below the first, and a mail from the second. */
    private static MailArbiter with(int domains, int address) {
        MailArbiter x = new MailArbiter();
        for (int i = 0; i < domains; i++) {
            x.domain(i == 0 ? -1 : 0, false);
        }
        x.mail(1, 1, address);
        return x;
    }

    private static void ranges() {
        MailArbiter x = with(2, 0);
        Due.is("no domain", x.rule(2, 0, Kind.ALL, 0, 0), -1);
        Due.is("domain -1", x.rule(-1, 0, Kind.ALL, 0, 0), -1);
        Due.is("sign -1", x.rule(1, -1, Kind.ALL, 0, 0), -1);
        Due.is("sign 4", x.rule(1, 4, Kind.ALL, 0, 0), -1);
        Due.is("kind -1", x.rule(1, 0, -1, 0, 0), -1);
        Due.is("kind 7", x.rule(1, 0, 7, 0, 0), -1);
        for (int kind = Kind.ADDRESS; kind <= Kind.EXCHANGERS; kind++) {
            Due.is("length -1, kind " + kind, x.rule(1, 0, kind, 0, -1), -1);
            Due.is("length 33, kind " + kind, x.rule(1, 0, kind, 0, 33), -1);
        }
        for (int kind = Kind.ADDRESSES; kind <= Kind.REDIRECT; kind++) {
            Due.is("domain 2, kind " + kind, x.rule(1, 0, kind, 2, 0), -1);
            Due.is("domain -1, kind " + kind, x.rule(1, 0, kind, -1, 0), -1);
        }
        Due.is("what is refused makes no rule", x.sender(), 0);
    }

    private static void argumentsThatDoNotCount() {
        MailArbiter x = with(2, 0);
        Due.is("all, any v and length", x.rule(1, 0, Kind.ALL, -9, 99), 1);
        Due.is("address, any v", x.rule(1, 3, Kind.ADDRESS, -9, 32), 2);
        Due.is("including, any length", x.rule(1, 0, Kind.INCLUDING, 0, -9), 3);
        Due.is("existing, any length", x.rule(1, 0, Kind.EXISTING, 0, 33), 4);
        Due.is("redirect, any sign and length", x.rule(1, 9, Kind.REDIRECT, 0, -9), 4);
    }

    private static void room() {
        MailArbiter x = with(2, 0);
        for (int i = 1; i <= 6; i++) {
            Due.is("term " + i, x.rule(1, 1, Kind.ADDRESS, 1, 32), i);
        }
        Due.is("a seventh", x.rule(1, 1, Kind.ALL, 0, 0), -2);
        Due.is("a seventh with a wrong sign", x.rule(1, 4, Kind.ALL, 0, 0), -1);
        Due.is("a seventh with a wrong length", x.rule(1, 0, Kind.ADDRESS, 0, 33), -1);
        Due.is("the seventh is not there", x.sender(), 4);
        Due.is("a redirect beside six", x.rule(1, 0, Kind.REDIRECT, 0, 0), 6);
        Due.is("another in its place", x.rule(1, 0, Kind.REDIRECT, 1, 0), 6);
        Due.is("the other domain", x.rule(0, 0, Kind.ALL, 0, 0), 1);
    }

    private static void signs() {
        for (int sign = 0; sign < 4; sign++) {
            MailArbiter x = with(2, 0);
            Due.is("none without a rule", x.sender(), 0);
            x.rule(1, (sign + 1) % 4, Kind.ADDRESS, 1, 32);
            Due.is("neutral when none matches", x.sender(), 4);
            x.rule(1, sign, Kind.ALL, 0, 0);
            x.rule(1, (sign + 2) % 4, Kind.ALL, 0, 0);
            Due.is("the first that matches, sign " + sign, x.sender(), sign + 1);
        }
    }

    private static void lengths() {
        for (int length = 0; length <= 32; length++) {
            for (int bit = 0; bit < 32; bit++) {
                MailArbiter x = with(2, 0x5A5A5A5A ^ 1 << bit);
                x.rule(1, 0, Kind.ADDRESS, 0x5A5A5A5A, length);
                boolean agrees = bit < 32 - length;
                Due.is("bit " + bit + " differs, length " + length, x.sender(), agrees ? 1 : 4);
            }
        }
        MailArbiter same = with(2, -1);
        same.rule(1, 0, Kind.ADDRESS, -1, 32);
        Due.is("the same in all bits", same.sender(), 1);
    }

    private static void addressesOfADomain() {
        MailArbiter x = with(3, 0x0A000105);
        x.rule(1, 0, Kind.ADDRESSES, 2, 24);
        Due.is("empty", x.sender(), 4);
        Due.is("counted empty", x.counted(1), 1);
        x.host(2, 0, 0x0A000205);
        Due.is("one that does not agree", x.sender(), 4);
        Due.is("not empty", x.counted(1), 0);
        x.host(2, 0, 0x0A0001FF);
        Due.is("another that does", x.sender(), 1);
        x.silent(2, true);
        Due.is("silent", x.sender(), 5);
        Due.is("silent is counted as a lookup", x.counted(0), 1);
        MailArbiter y = with(3, 0);
        y.rule(1, 0, Kind.ADDRESSES, 2, 32);
        y.host(2, 0, 5);
        Due.is("address 0 is not that of an empty place", y.sender(), 4);
    }

    private static void exchangersOfADomain() {
        MailArbiter x = with(5, 0x0A000105);
        x.rule(1, 2, Kind.EXCHANGERS, 2, 24);
        x.host(2, 0, 0x0A000105);
        Due.is("its own addresses are not asked", x.sender(), 4);
        Due.is("empty without exchangers", x.counted(1), 1);
        x.host(2, 1, 3);
        Due.is("an exchanger without addresses", x.sender(), 4);
        Due.is("is not empty", x.counted(1), 0);
        x.host(2, 1, 4);
        x.host(4, 0, 0x0B000105);
        x.host(4, 0, 0x0A0001EE);
        Due.is("the second agrees by its second", x.sender(), 3);
        Due.is("all that is one lookup", x.counted(0), 1);
        x.silent(4, true);
        Due.is("the second is silent", x.sender(), 5);
        x.host(3, 0, 0x0A000100);
        Due.is("the first agrees, the second is not asked", x.sender(), 3);
        x.silent(3, true);
        x.silent(4, false);
        Due.is("the first is silent", x.sender(), 5);
        x.silent(3, false);
        x.silent(2, true);
        Due.is("the domain is silent", x.sender(), 5);
        MailArbiter y = with(3, 7);
        y.rule(1, 0, Kind.EXCHANGERS, 2, 32);
        y.host(2, 1, 2);
        y.host(0, 0, 7);
        Due.is("domain 0 is not that of an empty place", y.sender(), 4);
    }

    private static void existing() {
        MailArbiter x = with(3, 77);
        x.rule(1, 1, Kind.EXISTING, 2, 32);
        Due.is("not existing", x.sender(), 4);
        Due.is("empty", x.counted(1), 1);
        x.host(2, 1, 0);
        Due.is("exchangers alone do not do", x.sender(), 4);
        x.host(2, 0, -5);
        Due.is("existing with any address", x.sender(), 2);
        x.silent(2, true);
        Due.is("silent", x.sender(), 5);
    }

    private static void including() {
        MailArbiter x = with(5, 77);
        x.rule(1, 2, Kind.INCLUDING, 2, 0);
        x.rule(1, 1, Kind.ALL, 0, 0);
        Due.is("none becomes 6", x.sender(), 6);
        x.rule(2, 3, Kind.ADDRESS, 77, 32);
        Due.is("neutral does not match", x.sender(), 2);
        for (int sign = 0; sign < 4; sign++) {
            MailArbiter y = with(3, 77);
            y.rule(1, 2, Kind.INCLUDING, 2, 0);
            y.rule(1, 1, Kind.ALL, 0, 0);
            y.rule(2, sign, Kind.ALL, 0, 0);
            Due.is("included sign " + sign, y.sender(), sign == 0 ? 3 : 2);
        }
        x.silent(2, true);
        Due.is("5 ends it", x.sender(), 5);
        x.silent(2, false);
        MailArbiter z = with(4, 77);
        z.rule(1, 0, Kind.INCLUDING, 2, 0);
        z.rule(1, 0, Kind.ALL, 0, 0);
        z.rule(2, 0, Kind.INCLUDING, 3, 0);
        z.rule(2, 0, Kind.ALL, 0, 0);
        Due.is("6 from two below ends it", z.sender(), 6);
        z.rule(3, 0, Kind.REDIRECT, 0, 0);
        Due.is("6 from a redirect below ends it", z.sender(), 6);
        z.rule(3, 0, Kind.ADDRESSES, 0, 32);
        z.silent(0, true);
        Due.is("5 from two below ends it", z.sender(), 5);
    }

    private static void redirects() {
        MailArbiter x = with(4, 77);
        x.rule(1, 0, Kind.REDIRECT, 2, 0);
        Due.is("to a domain without a rule", x.sender(), 6);
        Due.is("a redirect is a lookup", x.counted(0), 1);
        x.rule(2, 2, Kind.ALL, 0, 0);
        Due.is("its result", x.sender(), 3);
        x.rule(1, 0, Kind.REDIRECT, 3, 0);
        Due.is("another in its place", x.sender(), 6);
        x.rule(3, 1, Kind.ADDRESS, 1, 32);
        Due.is("neutral of the other", x.sender(), 4);
        x.silent(3, true);
        Due.is("silent", x.sender(), 5);
        x.rule(1, 1, Kind.ALL, 0, 0);
        Due.is("a term that matches comes first", x.sender(), 2);
        Due.is("the redirect was not looked up", x.counted(0), 0);
    }

    private static void elevenLookups() {
        MailArbiter x = with(5, 77);
        x.host(2, 0, 1);
        x.host(2, 1, 2);
        for (int i = 0; i < 5; i++) {
            x.rule(1, 0, i % 2 == 0 ? Kind.ADDRESSES : Kind.EXCHANGERS, 2, 32);
            x.rule(3, 0, Kind.ADDRESSES, 2, 32);
        }
        x.rule(1, 0, Kind.REDIRECT, 3, 0);
        x.rule(3, 3, Kind.ALL, 0, 0);
        Due.is("5 + 1 + 5 lookups", x.sender(), 6);
        Due.is("the 11th is counted", x.counted(0), 11);

        MailArbiter y = with(5, 77);
        y.host(2, 0, 1);
        for (int i = 0; i < 4; i++) {
            y.rule(1, 0, Kind.ADDRESSES, 2, 32);
            y.rule(3, 0, Kind.ADDRESSES, 2, 32);
        }
        y.rule(1, 0, Kind.REDIRECT, 3, 0);
        y.rule(3, 1, Kind.EXISTING, 2, 0);
        Due.is("4 + 1 + 5 lookups, the tenth matches", y.sender(), 2);
        Due.is("ten are counted", y.counted(0), 10);

        MailArbiter z = with(5, 77);
        z.rule(1, 0, Kind.REDIRECT, 1, 0);
        Due.is("a redirect to itself", z.sender(), 6);
        Due.is("ends with the 11th", z.counted(0), 11);

        MailArbiter silentAtLast = with(5, 77);
        silentAtLast.rule(1, 0, Kind.INCLUDING, 2, 0);
        silentAtLast.rule(2, 0, Kind.REDIRECT, 1, 0);
        Due.is("two that call one another", silentAtLast.sender(), 6);
        Due.is("with the 11th too", silentAtLast.counted(0), 11);

        MailArbiter both = tenAndThenOneOn(0);
        both.silent(0, true);
        Due.is("the 11th to a silent domain", both.sender(), 6);
        MailArbiter included = tenAndThenOneOn(0);
        Due.is("the 11th would be the third empty", included.sender(), 6);
        Due.is("but is not asked", included.counted(1), 0);
    }

    private static MailArbiter tenAndThenOneOn(int d) {
        MailArbiter x = with(5, 77);
        x.host(2, 0, 1);
        for (int i = 0; i < 5; i++) {
            x.rule(1, 0, Kind.ADDRESSES, 2, 32);
        }
        x.rule(1, 0, Kind.INCLUDING, 3, 0);
        for (int i = 0; i < 4; i++) {
            x.rule(3, 0, Kind.ADDRESSES, 2, 32);
        }
        x.rule(3, 0, Kind.EXISTING, d, 0);
        return x;
    }

    private static void threeEmpties() {
        MailArbiter x = with(4, 77);
        x.rule(1, 0, Kind.ADDRESSES, 2, 32);
        x.rule(1, 0, Kind.EXCHANGERS, 2, 32);
        x.rule(1, 1, Kind.ALL, 0, 0);
        Due.is("two are forgiven", x.sender(), 2);
        Due.is("two are counted", x.counted(1), 2);
        MailArbiter y = with(4, 77);
        y.rule(1, 0, Kind.ADDRESSES, 2, 32);
        y.rule(1, 0, Kind.INCLUDING, 3, 0);
        y.rule(1, 0, Kind.ALL, 0, 0);
        y.rule(3, 0, Kind.EXCHANGERS, 2, 32);
        y.rule(3, 0, Kind.EXISTING, 2, 32);
        y.rule(3, 0, Kind.ALL, 0, 0);
        Due.is("the third below an include", y.sender(), 6);
        Due.is("three are counted", y.counted(1), 3);
        Due.is("four lookups", y.counted(0), 4);
        y.host(2, 0, 1);
        Due.is("not empty any more", y.sender(), 1);
        Due.is("one is left", y.counted(1), 1);
    }

    private static void whatIsCounted() {
        MailArbiter x = with(3, 77);
        x.rule(1, 0, Kind.EXISTING, 2, 0);
        Due.is("before a check", x.counted(0), 0);
        Due.is("judge(0)", x.judge(0), 0);
        Due.is("judge counts lookups", x.counted(0), 1);
        Due.is("judge counts empties", x.counted(1), 1);
        Due.is("what = 2", x.counted(2), 0);
        Due.is("what = -1", x.counted(-1), 0);
        Due.is("mail(0, 0, 0)", x.mail(0, 0, 0), true);
        Due.is("a mail does not count anew", x.counted(0), 1);
        Due.is("judge(100)", x.judge(100), -1);
        Due.is("nor does a call that is refused", x.counted(0), 1);
        Due.is("sender()", x.sender(), 0);
        Due.is("the next check does", x.counted(0), 0);
        Due.is("empties too", x.counted(1), 0);
    }
}
