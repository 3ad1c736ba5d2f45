/** The example of README.md answers what README.md says. */
public final class ReadmeTest {
    public static void main(String[] args) {
        MailArbiter x = new MailArbiter();
        int suffix = x.domain(-1, false);
        int shop = x.domain(suffix, false);
        x.host(shop, 0, 0x0A000001);
        x.rule(shop, 0, 2, shop, 24);
        x.rule(shop, 1, 0, 0, 0);
        x.policy(shop, 2, 2, 0, 100);
        x.key(shop, 0, 77);

        x.mail(shop, shop, 0x0A000099);
        int subject = x.header(3);
        x.type(subject, 0x4869L, 2);
        x.type(-1, 0x627965L, 3);
        x.sign(shop, 0 + 2 * 3, 1 << 3, -1, -1);
        Due.is("signature(0)", x.signature(0), 1);
        Due.is("sender()", x.sender(), 1);
        Due.is("judge(0)", x.judge(0), 4);
        Due.is("row(0, 4)", x.row(0, 4), 1);

        x.mail(shop, shop, 0x0B000001);
        Due.is("sender() from elsewhere", x.sender(), 2);
        Due.is("judge(0) from elsewhere", x.judge(0), 2);
        Due.is("row(1, 2)", x.row(1, 2), 2);
        Due.end();
    }
}
