/** The kinds that the document numbers in a rule. */
final class Kind {
    static final int ALL = 0;
    static final int ADDRESS = 1;
    static final int ADDRESSES = 2;
    static final int EXCHANGERS = 3;
    static final int INCLUDING = 4;
    static final int EXISTING = 5;
    static final int REDIRECT = 6;

    private Kind() {
    }
}
