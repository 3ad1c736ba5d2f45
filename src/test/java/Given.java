/** What boundary tests begin with; each takes far fewer calls than the 512 that an object is used for. */
final class Given {
    static final int[] FAR = {Integer.MIN_VALUE, Integer.MIN_VALUE + 1, Integer.MAX_VALUE - 1, Integer.MAX_VALUE};
    static final long EIGHT_LETTERS = 0x4142434445464748L;

    private Given() {
    }

    static void nothing(MailArbiter x) {
    }

    static void domains(MailArbiter x, int count) {
        for (int i = 0; i < count; i++) {
            x.domain(i == 0 ? -1 : 0, false);
        }
    }

    /** Two domains with a key each, and an empty mail by the second. */
    static void anEmptyMail(MailArbiter x) {
        domains(x, 2);
        x.key(0, 0, 5);
        x.key(1, 1, 6);
        x.mail(1, 1, 7);
    }

    /** Some of everything, and room for one more; there is no domain 5. */
    static void someOfAll(MailArbiter x) {
        familyWithKeys(x);
        x.host(1, 0, 7);
        x.host(2, 0, 0x0A000001);
        x.host(2, 1, 1);
        x.rule(1, 0, 1, 7, 32);
        x.rule(1, 2, 2, 2, 24);
        x.rule(2, 3, 3, 2, 32);
        x.rule(2, 1, 6, 3, 0);
        x.rule(3, 1, 5, 4, 0);
        x.policy(1, 2, 1, 0, 50);
        x.policy(2, 1, 2, 3, 100);
        x.silent(4, true);
        x.tick(10);
        aSignedMail(x);
        x.sender();
        x.judge(3);
    }

    /** 0 is a suffix with the homes 1 and 4 below it; 2 and 3 are below 1. */
    static void familyOfFive(MailArbiter x) {
        int[] parents = {-1, 0, 1, 1, 0};
        for (int parent : parents) {
            x.domain(parent, false);
        }
    }

    private static void familyWithKeys(MailArbiter x) {
        familyOfFive(x);
        x.key(1, 0, 11);
        x.key(1, 1, 12);
        x.key(2, 0, 21);
    }

    private static void aSignedMail(MailArbiter x) {
        x.mail(2, 2, 7);
        x.header(3);
        Due.type(x, 0, "a  b");
        x.header(5);
        Due.type(x, -1, "one  two\n");
        x.sign(1, 0, 8, -1, 20);
        x.sign(2, 6, 255, 2, -1);
        x.link(1, 1);
    }

    /** As much of everything as there is room for, in domain 1 and in the mail. */
    static void fullOfAll(MailArbiter x) {
        familyWithKeys(x);
        for (int i = 5; i < 20; i++) {
            x.domain(i - 1, i % 5 == 0);
        }
        x.host(1, 0, 7);
        x.host(1, 0, 8);
        x.host(1, 1, 2);
        x.host(1, 1, 3);
        for (int i = 0; i < 6; i++) {
            x.rule(1, i % 4, 1, 20 + i, 32);
        }
        x.rule(1, 0, 6, 2, 0);
        x.policy(1, 1, 2, 0, 40);
        x.tick(1000);
        twelveRows(x);
        aFullMail(x);
        x.sender();
    }

    static void twelveRows(MailArbiter x) {
        for (int i = 0; i < 12; i++) {
            x.mail(1, 1, 100 + i);
            x.judge(0);
        }
    }

    private static void aFullMail(MailArbiter x) {
        x.mail(1, 2, 7);
        for (int i = 0; i < 6; i++) {
            x.header(i);
            Due.type(x, i, "ABCDEFGH".repeat(3));
        }
        Due.type(x, -1, "0123456789".repeat(9));
        for (int i = 0; i < 3; i++) {
            x.sign(1, 2 * i, 63, -1, 3 + i);
        }
        for (int i = 0; i < 4; i++) {
            x.link(1, i % 2);
        }
    }
}
