/** Promises 9 to 12: mail, header, type, length. */
public final class MailTextTest {
    public static void main(String[] args) {
        mails();
        aNewMailIsEmpty();
        headers();
        typing();
        whatCanBeThere();
        roomOfTexts();
        headerForms();
        bodyForms();
        Due.end();
    }

    private static MailArbiter withMail() {
        MailArbiter x = new MailArbiter();
        x.domain(-1, false);
        x.domain(0, false);
        x.mail(0, 1, 0);
        return x;
    }

    private static void mails() {
        MailArbiter x = new MailArbiter();
        Due.is("without domains", x.mail(0, 0, 0), false);
        x.domain(-1, false);
        Due.is("no sender", x.mail(1, 0, 0), false);
        Due.is("sender -1", x.mail(-1, 0, 0), false);
        Due.is("no author", x.mail(0, 1, 0), false);
        Due.is("author -1", x.mail(0, -1, 0), false);
        Due.is("there is none yet", x.sender(), -1);
        Due.is("mail(0, 0, lowest)", x.mail(0, 0, Integer.MIN_VALUE), true);
        Due.is("header(1)", x.header(1), 0);
        Due.is("a refused one", x.mail(0, 1, 0), false);
        Due.is("leaves the one there was", x.length(0, false), 0);
    }

    private static void aNewMailIsEmpty() {
        MailArbiter x = withMail();
        x.key(0, 0, 3);
        x.header(2);
        Due.type(x, 0, "abc");
        Due.type(x, -1, "body");
        x.sign(0, 0, 255, -1, -1);
        x.link(0, 0);
        Due.is("mail(1, 0, 5)", x.mail(1, 0, 5), true);
        Due.is("no headers", x.length(0, false), -1);
        Due.is("no body", x.length(-1, false), 1);
        Due.is("no signatures", x.signature(0), -1);
        Due.is("no signature to spoil", x.spoil(0, 1), false);
        Due.is("no links", x.chain(), 0);
        Due.is("header(3)", x.header(3), 0);
        Due.is("it is empty", x.length(0, false), 0);
        Due.is("sign", x.sign(0, 0, 255, -1, -1), 0);
        Due.is("link", x.link(0, 0), 0);
    }

    private static void headers() {
        MailArbiter x = withMail();
        Due.is("name -1", x.header(-1), -1);
        Due.is("name 8", x.header(8), -1);
        for (int i = 0; i < 6; i++) {
            Due.is("header " + i, x.header(7 - i), i);
        }
        Due.is("a seventh", x.header(0), -2);
        Due.is("a seventh with name 8", x.header(8), -1);
        Due.is("length(5)", x.length(5, false), 0);
        Due.is("length(6)", x.length(6, false), -1);
        Due.is("length(-2)", x.length(-2, false), -1);
    }

    private static void typing() {
        MailArbiter x = withMail();
        x.header(0);
        x.header(0);
        Due.is("header 2", x.type(2, 65, 1), -1);
        Due.is("header -2", x.type(-2, 65, 1), -1);
        Due.is("n = 0", x.type(0, 65, 0), -1);
        Due.is("n = 9", x.type(0, 65, 9), -1);
        Due.is("n = 9, all of them letters", x.type(0, 0x4141414141414141L, 9), -1);
        Due.is("n = -1", x.type(-1, 65, -1), -1);
        Due.is("two of three bytes", x.type(1, 0xFF4142L, 2), 2);
        Due.is("one more", x.type(1, 0x20, 1), 3);
        Due.is("simple", x.length(1, false), 3);
        Due.is("relaxed", x.length(1, true), 2);
        Due.is("the first is untouched", x.length(0, false), 0);
        Due.is("the highest comes first", x.type(0, 0x4120, 2), 2);
        Due.is("so the blank is at the end", x.length(0, true), 1);
        Due.is("and then within", x.type(0, 0x4120, 2), 4);
        Due.is("as one", x.length(0, true), 3);
        Due.is("eight of eight", x.type(-1, 0x7E7E7E7E7E7E7E7EL, 8), 8);
        Due.is("body", x.length(-1, false), 9);
    }

    private static void whatCanBeThere() {
        for (int c = 0; c < 256; c++) {
            boolean visible = c >= 32 && c <= 126;
            MailArbiter x = withMail();
            x.header(0);
            Due.is("code " + c + " in a header", x.type(0, c, 1), visible || c == 9 ? 1 : -1);
            Due.is("code " + c + " in the body", x.type(-1, c, 1), visible || c == 9 || c == 10 ? 1 : -1);
            MailArbiter y = withMail();
            Due.is("code " + c + " as the highest", y.type(-1, (long) c << 56 | 0x41414141414141L, 8),
                    visible || c == 9 || c == 10 ? 8 : -1);
            Due.is("nothing or all was typed", y.length(-1, false), visible || c == 9 || c == 10 ? 9 : 1);
        }
    }

    private static void roomOfTexts() {
        MailArbiter x = withMail();
        x.header(0);
        x.header(0);
        Due.is("23 in a header", Due.type(x, 0, "abcdefghijklmnopqrstuvw"), 23);
        Due.is("two more", x.type(0, 0x4141, 2), -2);
        Due.is("two more, one of which cannot be", x.type(0, 0x410A, 2), -1);
        Due.is("nothing was typed", x.length(0, false), 23);
        Due.is("the 24th", x.type(0, 0x41, 1), 24);
        Due.is("the 25th", x.type(0, 0x41, 1), -2);
        Due.is("the other header", x.type(1, 0x41, 1), 1);
        String eighty = "0123456789".repeat(8);
        Due.is("80 in the body", Due.type(x, -1, eighty), 80);
        Due.is("88", x.type(-1, Due.bytes("abcdefgh"), 8), 88);
        Due.is("three more", x.type(-1, Due.bytes("ijk"), 3), -2);
        Due.is("three more, one of which cannot be", x.type(-1, 0x41417FL, 3), -1);
        Due.is("two more", x.type(-1, Due.bytes("ij"), 2), 90);
        Due.is("one more", x.type(-1, 10, 1), -2);
        Due.is("the whole, and a line's end", x.length(-1, false), 91);
        Due.is("relaxed too", x.length(-1, true), 91);
    }

    private static void headerForms() {
        headerForm("", 0, 0);
        headerForm(" ", 1, 0);
        headerForm(" \t \t", 4, 0);
        headerForm("a", 1, 1);
        headerForm(" a", 2, 1);
        headerForm("a\t", 2, 1);
        headerForm("\t a \t b  c\t", 11, 5);
        headerForm("a b", 3, 3);
    }

    private static void headerForm(String text, int simple, int relaxed) {
        MailArbiter x = withMail();
        x.header(4);
        Due.type(x, 0, text);
        Due.is("simple header [" + text + "]", x.length(0, false), simple);
        Due.is("relaxed header [" + text + "]", x.length(0, true), relaxed);
    }

    private static void bodyForms() {
        bodyForm("", 1, 1);
        bodyForm("\n", 1, 1);
        bodyForm("\n\n\n", 1, 1);
        bodyForm(" ", 2, 1);
        bodyForm("a", 2, 2);
        bodyForm("a\n", 2, 2);
        bodyForm("a\n\n", 2, 2);
        bodyForm("\n\na", 4, 4);
        bodyForm("a\n\nb\n\n", 5, 5);
        bodyForm("a ", 3, 2);
        bodyForm("a \n", 3, 2);
        bodyForm("a\n \n\t\n", 6, 2);
        bodyForm("a\n ", 4, 2);
        bodyForm("  a", 4, 3);
        bodyForm("a\n \tb", 6, 5);
        bodyForm("a \t b\t\tc \t\nd", 13, 8);
        bodyForm(" \n \n ", 6, 1);
        bodyForm(" \na", 4, 3);
    }

    private static void bodyForm(String text, int simple, int relaxed) {
        MailArbiter x = withMail();
        Due.type(x, -1, text);
        Due.is("simple body [" + text + "]", x.length(-1, false), simple);
        Due.is("relaxed body [" + text + "]", x.length(-1, true), relaxed);
    }
}
