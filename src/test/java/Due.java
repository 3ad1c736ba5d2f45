/** What all tests need: it prints each answer that is not the one due, and ends with 1 if there was one. */
final class Due {
    private static int calls = 0;
    private static int wrong = 0;

    private Due() {
    }

    static void is(String call, long got, long want) {
        calls++;
        if (got != want) {
            wrong++;
            System.out.println(call + " answered " + got + ", due is " + want);
        }
    }

    static void is(String call, boolean got, boolean want) {
        is(call, got ? 1 : 0, want ? 1 : 0);
    }

    static void end() {
        System.out.println(wrong == 0 ? calls + " answers are as due" : wrong + " answers are not as due");
        if (wrong != 0) {
            System.exit(1);
        }
    }

    /** Types a text in pieces of at most 8 characters; answers what the last piece was answered. */
    static int type(MailArbiter x, int k, String text) {
        int last = 0;
        for (int at = 0; at < text.length(); at += 8) {
            String piece = text.substring(at, Math.min(at + 8, text.length()));
            last = x.type(k, bytes(piece), piece.length());
        }
        return last;
    }

    static long bytes(String piece) {
        long sum = 0;
        for (int i = 0; i < piece.length(); i++) {
            sum = sum << 8 | piece.charAt(i);
        }
        return sum;
    }
}
