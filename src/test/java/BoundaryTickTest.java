/** The boundary cases of promise 22, tick. Each test tells its sentence. */
public final class BoundaryTickTest {
    public static void main(String[] args) {
        outOfRange();
        lowestAndHighest();
        asFarAsItGoes();
        Due.end();
    }

    /** Promise 22: NONE, and it does not, when n is not 0 .. 1000. */
    private static void outOfRange() {
        Refused.noneEver("tick(-1)", x -> x.tick(-1));
        Refused.noneEver("tick(1001)", x -> x.tick(1001));
        for (int far : Given.FAR) {
            Refused.noneEver("tick(" + far + ")", x -> x.tick(far));
        }
        MailArbiter x = new MailArbiter();
        x.tick(5);
        x.tick(-1);
        x.tick(1001);
        Due.is("it does not go on", x.tick(0), 5);
    }

    /** Promise 22: The time goes on by n. Answers it. */
    private static void lowestAndHighest() {
        MailArbiter x = new MailArbiter();
        Due.is("by 0", x.tick(0), 0);
        Due.is("by 1", x.tick(1), 1);
        Due.is("by 999", x.tick(999), 1000);
        Due.is("by 1000", x.tick(1000), 2000);
        Due.is("by 0 again", x.tick(0), 2000);
    }

    /** Promise 22, as often as an object is used: 512 calls. */
    private static void asFarAsItGoes() {
        MailArbiter x = new MailArbiter();
        for (int i = 1; i <= 512; i++) {
            Due.is("tick " + i, x.tick(1000), 1000 * i);
        }
    }
}
