/** The boundary cases of the promises 9 to 12: mail, header, type, length. Each test tells its sentence. */
public final class BoundaryTextTest {
    public static void main(String[] args) {
        noSenderOrAuthor();
        aNewMailIsWithoutAnything();
        aRefusedMailLeavesTheOneThereWas();
        anyAddress();
        noSuchName();
        sixHeaders();
        noHeaderToTypeTo();
        oneToEightCharacters();
        theLowestBytesAlone();
        theHighestFirst();
        charactersThatCanBeThere();
        oneOfThemCannotBeThere();
        twentyFourInAHeader();
        ninetyInTheBody();
        noneBeforeFull();
        noHeaderToMeasure();
        headersOfBlanks();
        longestHeaders();
        bodiesOfNothing();
        endsOfBodies();
        longestBodies();
        Due.end();
    }

    private static MailArbiter withMail() {
        MailArbiter x = new MailArbiter();
        Given.anEmptyMail(x);
        x.header(0);
        return x;
    }

    /** Promise 9: false when sender or author is no domain. */
    private static void noSenderOrAuthor() {
        Refused.notEver("sender -1", x -> x.mail(-1, 0, 0));
        Refused.notEver("sender 20", x -> x.mail(20, 0, 0));
        Refused.notEver("author -1", x -> x.mail(0, -1, 0));
        Refused.notEver("author 20", x -> x.mail(0, 20, 0));
        Refused.notEver("neither", x -> x.mail(-1, 20, 0));
        for (int far : Given.FAR) {
            Refused.notEver("sender " + far, x -> x.mail(far, 0, 0));
            Refused.notEver("author " + far, x -> x.mail(0, far, 0));
        }
        Refused.not("without domains", Given::nothing, x -> x.mail(0, 0, 0));
        Refused.not("sender 5", Given::someOfAll, x -> x.mail(5, 0, 0));
        Refused.not("author 5", Given::someOfAll, x -> x.mail(0, 5, 0));
        MailArbiter x = new MailArbiter();
        Given.domains(x, 5);
        Due.is("the first and the last", x.mail(0, 4, 0), true);
        Due.is("the last and the first", x.mail(4, 0, 0), true);
    }

    /** Promise 9: in place of the one there was: without headers, body, signatures and links. */
    private static void aNewMailIsWithoutAnything() {
        MailArbiter x = new MailArbiter();
        Given.fullOfAll(x);
        Due.is("mail", x.mail(1, 1, 7), true);
        for (int k = 0; k < 6; k++) {
            Due.is("no header " + k, x.length(k, false), -1);
            Due.is("none to type to", x.type(k, 65, 1), -1);
        }
        Due.is("no body, simple", x.length(-1, false), 1);
        Due.is("no body, relaxed", x.length(-1, true), 1);
        for (int k = 0; k < 3; k++) {
            Due.is("no signature " + k, x.signature(k), -1);
            Due.is("none to spoil", x.spoil(k, 1), false);
        }
        Due.is("no links", x.chain(), 0);
        for (int k = 0; k < 6; k++) {
            Due.is("room for header " + k, x.header(7), k);
            Due.is("it is empty", x.length(k, false), 0);
            Due.is("with room for 24", Due.type(x, k, "x".repeat(24)), 24);
        }
        Due.is("room for a body of 90", Due.type(x, -1, "x".repeat(90)), 90);
        for (int k = 0; k < 3; k++) {
            Due.is("room for signature " + k, x.sign(1, 0, 255, -1, -1), k);
            Due.is("it checks", x.signature(k), 1);
        }
        for (int k = 0; k < 4; k++) {
            Due.is("room for link " + k, x.link(1, 0), k);
            Due.is("good", x.chain(), 1);
        }
    }

    /** Promise 9: false (and then there is none in place of the one there was). */
    private static void aRefusedMailLeavesTheOneThereWas() {
        MailArbiter x = withMail();
        Due.type(x, 0, "abc");
        Due.type(x, -1, "body");
        x.sign(0, 0, 255, -1, -1);
        x.link(0, 0);
        Due.is("refused", x.mail(1, 2, 9), false);
        Due.is("header", x.length(0, false), 3);
        Due.is("body", x.length(-1, false), 5);
        Due.is("signature", x.signature(0), 1);
        Due.is("chain", x.chain(), 1);
        x.judge(0);
        Due.is("address", x.row(0, 1), 7);
        Due.is("author's home", x.row(0, 0), 1);
    }

    /** Promise 9: an address it comes from: any int. */
    private static void anyAddress() {
        int[] addresses = {-2, -1, 0, 1, Integer.MIN_VALUE, Integer.MAX_VALUE};
        for (int address : addresses) {
            MailArbiter x = new MailArbiter();
            Given.domains(x, 1);
            Due.is("address " + address, x.mail(0, 0, address), true);
            x.judge(0);
            Due.is("in the report", x.row(0, 1), address);
        }
    }

    /** Promise 10: NONE when name is not 0 .. 7. */
    private static void noSuchName() {
        Refused.noneEver("name -1", x -> x.header(-1));
        Refused.noneEver("name 8", x -> x.header(8));
        for (int far : Given.FAR) {
            Refused.noneEver("name " + far, x -> x.header(far));
        }
        for (int name = 0; name <= 7; name++) {
            MailArbiter x = new MailArbiter();
            Given.anEmptyMail(x);
            x.sign(0, 0, 1 << name, -1, -1);
            x.sign(0, 0, 255 - (1 << name), -1, -1);
            Due.is("name " + name, x.header(name), 0);
            Due.is("a header of that name is there", x.signature(0), 2);
            Due.is("and of no other", x.signature(1), 1);
        }
    }

    /** Promise 10: Answers its number (from 0); FULL when there are 6. A new header is empty. */
    private static void sixHeaders() {
        MailArbiter x = new MailArbiter();
        Given.anEmptyMail(x);
        for (int k = 0; k < 6; k++) {
            Due.is("not there yet: " + k, x.length(k, false), -1);
            Due.is("header " + k, x.header(3), k);
            Due.is("empty, simple: " + k, x.length(k, false), 0);
            Due.is("empty, relaxed: " + k, x.length(k, true), 0);
        }
        Due.is("header 6", x.header(3), -2);
        Due.is("is not there", x.length(6, false), -1);
        for (int name = 0; name <= 7; name++) {
            int n = name;
            Refused.full("a seventh, name " + n, Given::fullOfAll, y -> y.header(n));
        }
    }

    /** Promise 11: NONE when there is no such header. (k = -1: the body) */
    private static void noHeaderToTypeTo() {
        Refused.noneEver("header -2", x -> x.type(-2, 65, 1));
        Refused.noneEver("header 6", x -> x.type(6, 65, 1));
        for (int far : Given.FAR) {
            Refused.noneEver("header " + far, x -> x.type(far, 65, 1));
        }
        Refused.none("header 0 of an empty mail", Given::anEmptyMail, x -> x.type(0, 65, 1));
        Refused.none("header 2 of two", Given::someOfAll, x -> x.type(2, 65, 1));
        MailArbiter x = new MailArbiter();
        Given.someOfAll(x);
        Due.is("header 0 of two", x.type(0, 65, 1), 5);
        Due.is("header 1 of two", x.type(1, 65, 1), 1);
        Due.is("the body", x.type(-1, 65, 1), 10);
    }

    /** Promise 11: NONE when n is not 1 .. 8. */
    private static void oneToEightCharacters() {
        for (int k = -1; k <= 0; k++) {
            int part = k;
            Refused.noneEver("n 0 to " + part, x -> x.type(part, Given.EIGHT_LETTERS, 0));
            Refused.noneEver("n -1 to " + part, x -> x.type(part, Given.EIGHT_LETTERS, -1));
            Refused.noneEver("n 9 to " + part, x -> x.type(part, Given.EIGHT_LETTERS, 9));
            for (int far : Given.FAR) {
                Refused.noneEver("n " + far + " to " + part, x -> x.type(part, Given.EIGHT_LETTERS, far));
            }
            for (int n = 1; n <= 8; n++) {
                MailArbiter x = withMail();
                Due.is("n " + n + " to " + part, x.type(part, Given.EIGHT_LETTERS, n), n);
                Due.is("length", x.length(part, false), part == -1 ? n + 1 : n);
            }
        }
    }

    /** Promise 11: Appends the n lowest bytes: those above may be what cannot be there. */
    private static void theLowestBytesAlone() {
        for (int n = 1; n <= 7; n++) {
            long above = -1L << (8 * n);
            long letters = Given.EIGHT_LETTERS & ~above;
            MailArbiter x = withMail();
            Due.is("ones above " + n, x.type(0, above | letters, n), n);
            Due.is("and in the body", x.type(-1, above | letters, n), n);
            Due.is("zeros above " + n, x.type(0, letters, n), 2 * n);
            Due.is("one of those above " + n, x.type(0, above | letters, n + 1), -1);
            Due.is("a zero above " + n, x.type(-1, letters, n + 1), -1);
        }
    }

    /** Promise 11: as characters, the highest first. */
    private static void theHighestFirst() {
        MailArbiter x = withMail();
        x.type(0, 0x20206120206220L, 7);
        Due.is("blanks at the beginning and the end", x.length(0, true), 3);
        x.type(-1, 0x610AL, 2);
        Due.is("10 is at the end", x.length(-1, false), 2);
        x.type(-1, 0x0A61L, 2);
        Due.is("10 is before", x.length(-1, false), 5);
        MailArbiter y = withMail();
        y.type(-1, 0x4120202020202020L, 8);
        Due.is("the highest of eight is at the beginning", y.length(-1, true), 2);
        MailArbiter z = withMail();
        z.type(-1, 0x2020202020202041L, 8);
        Due.is("the lowest of eight is at the end", z.length(-1, true), 3);
    }

    /** Terms: characters have the codes 9, 10 (in the body alone) and 32 .. 126. */
    private static void charactersThatCanBeThere() {
        for (int code : new int[] {9, 32, 33, 125, 126}) {
            Due.is(code + " in a header", withMail().type(0, code, 1), 1);
            Due.is(code + " in the body", withMail().type(-1, code, 1), 1);
        }
        Due.is("10 in the body", withMail().type(-1, 10, 1), 1);
        Refused.noneEver("10 in a header", x -> x.type(0, 10, 1));
        for (int code : new int[] {0, 1, 8, 11, 12, 13, 31, 127, 128, 137, 160, 255}) {
            Refused.noneEver(code + " in a header", x -> x.type(0, code, 1));
            Refused.noneEver(code + " in the body", x -> x.type(-1, code, 1));
        }
    }

    /** Promise 11: NONE when one of them cannot be there: the rest is not appended either. */
    private static void oneOfThemCannotBeThere() {
        for (int at = 0; at < 8; at++) {
            for (int code : new int[] {0, 8, 11, 31, 127, 255}) {
                long characters = Given.EIGHT_LETTERS & ~(255L << 8 * at) | (long) code << 8 * at;
                Refused.none(code + " at " + at + " in a header", Given::someOfAll, x -> x.type(1, characters, 8));
                Refused.none(code + " at " + at + " in the body", Given::someOfAll, x -> x.type(-1, characters, 8));
            }
            long lineEnd = Given.EIGHT_LETTERS & ~(255L << 8 * at) | 10L << 8 * at;
            Refused.none("10 at " + at + " in a header", Given::someOfAll, x -> x.type(1, lineEnd, 8));
            Due.is("10 at " + at + " in the body", withMail().type(-1, lineEnd, 8), 8);
        }
    }

    /** Promise 11: FULL when there would be too many. (a text of at most 24 characters) */
    private static void twentyFourInAHeader() {
        for (int n = 1; n <= 8; n++) {
            int count = n;
            Refused.full(n + " from 24", Given::fullOfAll, x -> x.type(5, Given.EIGHT_LETTERS, count));
            MailArbiter x = withMail();
            Due.type(x, 0, "x".repeat(24 - n));
            Due.is(n + " up to 24", x.type(0, Given.EIGHT_LETTERS, n), 24);
            MailArbiter y = withMail();
            Due.type(y, 0, "x".repeat(25 - n));
            Due.is(n + " up to 25", y.type(0, Given.EIGHT_LETTERS, n), -2);
            Due.is("none of them is there", y.length(0, false), 25 - n);
            if (n > 1) {
                Due.is("one less", y.type(0, Given.EIGHT_LETTERS, n - 1), 24);
            }
        }
        MailArbiter blanks = withMail();
        Due.type(blanks, 0, " ".repeat(24));
        Due.is("blanks take room as well", blanks.type(0, 32, 1), -2);
    }

    /** Promise 11: FULL when there would be too many. (a BODY of at most 90) */
    private static void ninetyInTheBody() {
        for (int n = 1; n <= 8; n++) {
            int count = n;
            Refused.full(n + " from 90", Given::fullOfAll, x -> x.type(-1, Given.EIGHT_LETTERS, count));
            MailArbiter x = withMail();
            Due.type(x, -1, "x".repeat(90 - n));
            Due.is(n + " up to 90", x.type(-1, Given.EIGHT_LETTERS, n), 90);
            MailArbiter y = withMail();
            Due.type(y, -1, "x".repeat(91 - n));
            Due.is(n + " up to 91", y.type(-1, Given.EIGHT_LETTERS, n), -2);
            Due.is("none of them is there", y.length(-1, false), 92 - n);
            if (n > 1) {
                Due.is("one less", y.type(-1, Given.EIGHT_LETTERS, n - 1), 90);
            }
        }
        MailArbiter lines = withMail();
        Due.type(lines, -1, "\n".repeat(90));
        Due.is("lines' ends take room as well", lines.type(-1, 10, 1), -2);
    }

    /**
     * Promise 11: NONE when one of them cannot be there; FULL when there would be too many: NONE is told
     * first.
     */
    private static void noneBeforeFull() {
        Refused.none("in a header", Given::fullOfAll, x -> x.type(0, 127, 1));
        Refused.none("10 in a header", Given::fullOfAll, x -> x.type(0, 10, 1));
        Refused.none("in the body", Given::fullOfAll, x -> x.type(-1, 127, 1));
        Refused.none("too many at once, in a header", Given::fullOfAll, x -> x.type(0, Given.EIGHT_LETTERS, 9));
        Refused.none("none at all, in the body", Given::fullOfAll, x -> x.type(-1, Given.EIGHT_LETTERS, 0));
    }

    /** Promise 12: NONE when there is no such header. */
    private static void noHeaderToMeasure() {
        for (boolean relaxed : new boolean[] {false, true}) {
            Refused.noneEver("header -2", x -> x.length(-2, relaxed));
            Refused.noneEver("header 6", x -> x.length(6, relaxed));
            for (int far : Given.FAR) {
                Refused.noneEver("header " + far, x -> x.length(far, relaxed));
            }
            Refused.none("header 0 of an empty mail", Given::anEmptyMail, x -> x.length(0, relaxed));
            Refused.none("header 2 of two", Given::someOfAll, x -> x.length(2, relaxed));
            MailArbiter x = new MailArbiter();
            Given.fullOfAll(x);
            Due.is("header 0", x.length(0, relaxed), 24);
            Due.is("header 5", x.length(5, relaxed), 24);
            Due.is("the body", x.length(-1, relaxed), 91);
        }
    }

    private static void header(String text, int relaxed) {
        MailArbiter x = withMail();
        Due.type(x, 0, text);
        Due.is("simple [" + text + "]", x.length(0, false), text.length());
        Due.is("relaxed [" + text + "]", x.length(0, true), relaxed);
    }

    /**
     * Terms: RELAXED without blanks at its beginning and end, each run of blanks within as one space.
     * BLANKS are 9 and 32.
     */
    private static void headersOfBlanks() {
        header("", 0);
        header(" ", 0);
        header("\t", 0);
        header(" \t", 0);
        header("a", 1);
        header("ab", 2);
        header(" a", 1);
        header("\ta", 1);
        header("a ", 1);
        header("a\t", 1);
        header("a b", 3);
        header("a\tb", 3);
        header("a \tb", 3);
        header("a b c", 5);
        header("!~", 2);
    }

    /** Terms: a text of at most 24 characters, in both forms. */
    private static void longestHeaders() {
        header("x".repeat(24), 24);
        header(" ".repeat(24), 0);
        header("\t".repeat(24), 0);
        header(" ".repeat(23) + "x", 1);
        header("x" + "\t".repeat(23), 1);
        header("x" + " ".repeat(22) + "y", 3);
        header("x ".repeat(12), 23);
        header(" x".repeat(12), 23);
    }

    private static void body(String text, int simple, int relaxed) {
        MailArbiter x = withMail();
        Due.type(x, -1, text);
        Due.is("simple [" + text + "]", x.length(-1, false), simple);
        Due.is("relaxed [" + text + "]", x.length(-1, true), relaxed);
    }

    /** Terms: (it is just that one when nothing is left). */
    private static void bodiesOfNothing() {
        body("", 1, 1);
        body("\n", 1, 1);
        body("\n\n", 1, 1);
        body("\n".repeat(90), 1, 1);
        body(" ", 2, 1);
        body("\t", 2, 1);
        body(" \n", 2, 1);
        body("\n ", 3, 1);
        body(" \n\t\n", 4, 1);
        body(" ".repeat(90), 91, 1);
        body(" \n".repeat(45), 90, 1);
    }

    /**
     * Terms: at its end all characters 10 are taken away, and then one is put; no blanks before a 10 or at
     * the end of the body.
     */
    private static void endsOfBodies() {
        body("a", 2, 2);
        body("a\n", 2, 2);
        body("a\n\n\n", 2, 2);
        body("\na", 3, 3);
        body("\n\na\n", 4, 4);
        body("a\n\nb", 5, 5);
        body("a ", 3, 2);
        body("a\t \n", 4, 2);
        body("a \nb", 5, 4);
        body("a\n b", 5, 5);
        body(" a", 3, 3);
        body("\t\ta", 4, 3);
        body("\n a", 4, 4);
        body("a\n ", 4, 2);
        body("a\n \n", 4, 2);
    }

    /** Terms: a BODY of at most 90, in both forms: one more when it does not end with a 10. */
    private static void longestBodies() {
        body("x".repeat(90), 91, 91);
        body("x".repeat(89) + "\n", 90, 90);
        body("x".repeat(89) + " ", 91, 90);
        body("x".repeat(88) + " \n", 90, 89);
        body("x" + "\n".repeat(89), 2, 2);
        body("\n".repeat(89) + "x", 91, 91);
        body(" ".repeat(89) + "x", 91, 3);
        body("x ".repeat(45), 91, 90);
        body(" x".repeat(45), 91, 91);
    }
}
