/** Promise 22: tick. */
public final class TickTest {
    public static void main(String[] args) {
        MailArbiter x = new MailArbiter();
        Due.is("tick(0)", x.tick(0), 0);
        Due.is("tick(1000)", x.tick(1000), 1000);
        Due.is("tick(1001)", x.tick(1001), -1);
        Due.is("tick(-1)", x.tick(-1), -1);
        Due.is("tick(lowest)", x.tick(Integer.MIN_VALUE), -1);
        Due.is("tick(0) again", x.tick(0), 1000);
        for (int i = 2; i <= 500; i++) {
            Due.is("tick " + i, x.tick(1000), 1000 * i);
        }
        x.domain(-1, false);
        Due.is("what else happens takes no time", x.tick(1), 500001);
        Due.end();
    }
}
