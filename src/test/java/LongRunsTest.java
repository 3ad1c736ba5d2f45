import java.util.Random;

/** Runs of 512 calls, the same ones every time, compared with the plain second writing of the document. */
public final class LongRunsTest {
    private static final int RUNS = 6000;
    private static final int CALLS = 512;
    private static final int[] ADDRESSES = {0, 1, 9, -1, 0x0A000001, 0x0A000002, 0x0A0000FF, 0x0A010001};
    private static final int[] ODD = {-1, -2, -3, 20, 33, 100, 256, 1001, 1000001, 100001,
            Integer.MIN_VALUE, Integer.MAX_VALUE};
    private static final String TYPED = "a \t\n";

    private final Random random;
    private final MailArbiter x = new MailArbiter();
    private final PlainArbiter y = new PlainArbiter();
    private final int domains;
    // A mail's rooms fill only where, after a time, little is published and mails seldom come.
    private final boolean calm;
    private final String run;

    private LongRunsTest(int seed) {
        random = new Random(seed);
        domains = 2 + random.nextInt(seed % 4 == 0 ? 21 : 6);
        calm = seed % 3 == 0;
        run = "run " + seed + ", call ";
    }

    public static void main(String[] args) {
        for (int seed = 0; seed < RUNS; seed++) {
            new LongRunsTest(seed).go();
        }
        Due.end();
    }

    private void go() {
        int wild = random.nextInt(3) == 0 ? 6 : 60;
        for (int i = 0; i < domains; i++) {
            int parent = random.nextInt(i + 1) - 1;
            boolean suffix = random.nextInt(4) == 0;
            Due.is(run + "domain", x.domain(parent, suffix), y.domain(parent, suffix));
        }
        for (int i = domains; i < CALLS; i++) {
            call(i, wild);
        }
    }

    private int upTo(int bound, int wild) {
        if (random.nextInt(wild) == 0) {
            return ODD[random.nextInt(ODD.length)];
        }
        return random.nextInt(wild) == 0 ? atAnEdge(0, bound - 1) : random.nextInt(bound);
    }

    /** The lowest, the highest, or the next one beyond them. */
    private int atAnEdge(int lowest, int highest) {
        int[] edges = {lowest - 1, lowest, highest, highest + 1};
        return edges[random.nextInt(edges.length)];
    }

    private int orNone(int bound, int wild) {
        return random.nextInt(3) == 0 ? -1 : upTo(bound, wild);
    }

    private int limit(int how, int wild) {
        boolean relaxed = how >= 4;
        return random.nextInt(4) == 0 ? atAnEdge(-1, y.length(-1, relaxed)) : orNone(12, wild);
    }

    private int life(int wild) {
        return random.nextInt(8) == 0 ? atAnEdge(-1, 100000) : orNone(4, wild);
    }

    private int address() {
        return ADDRESSES[random.nextInt(ADDRESSES.length)];
    }

    private long characters() {
        long sum = 0;
        for (int i = 0; i < 8; i++) {
            int c = random.nextInt(calm ? 600 : 60) == 0 ? random.nextInt(256) : TYPED.charAt(random.nextInt(4));
            sum = sum << 8 | c;
        }
        return sum;
    }

    private void call(int i, int wild) {
        int d = upTo(domains, wild);
        int e = upTo(domains, wild);
        int choice = random.nextInt(46);
        String name = run + i + ", choice " + choice;
        if (calm && i > CALLS / 3 && choice < 16 && random.nextInt(12) != 0) {
            choice = 16 + random.nextInt(13);
        }
        if (choice < 14) {
            publish(choice, name, d, e, wild);
        } else if (choice < 29) {
            write(choice, name, d, e, wild);
        } else {
            ask(choice, name, d, wild);
        }
    }

    private void publish(int choice, String name, int d, int e, int wild) {
        int a = upTo(4, wild);
        int b = upTo(7, wild);
        int c = upTo(33, wild);
        switch (choice) {
            case 0 -> {
                boolean is = random.nextInt(5) == 0;
                Due.is(name, x.silent(d, is), y.silent(d, is));
            }
            case 1, 2 -> {
                int kind = upTo(2, wild);
                int v = kind == 0 ? address() : e;
                Due.is(name, x.host(d, kind, v), y.host(d, kind, v));
            }
            case 3, 4, 5 -> {
                int v = b == 1 ? address() : e;
                Due.is(name, x.rule(d, a, b, v, c), y.rule(d, a, b, v, c));
            }
            case 6, 7, 8, 9 -> {
                int selector = upTo(2, wild);
                int key = random.nextInt(8) == 0 ? atAnEdge(1, 1000000) : upTo(3, wild);
                Due.is(name, x.key(d, selector, key), y.key(d, selector, key));
            }
            case 10, 11, 12 -> {
                int own = upTo(4, wild) - 1;
                int below = upTo(3, wild);
                int part = upTo(101, wild);
                Due.is(name, x.policy(d, own, below, a, part), y.policy(d, own, below, a, part));
            }
            default -> {
                int n = upTo(random.nextBoolean() ? 3 : 1001, wild);
                Due.is(name, x.tick(n), y.tick(n));
            }
        }
    }

    private void write(int choice, String name, int d, int e, int wild) {
        switch (choice) {
            case 14, 15 -> {
                int from = address();
                Due.is(name, x.mail(d, e, from), y.mail(d, e, from));
            }
            case 16, 17, 18 -> {
                int header = upTo(8, wild);
                Due.is(name, x.header(header), y.header(header));
            }
            case 19, 20, 21, 22 -> {
                int k = orNone(3, wild);
                int n = upTo(9, wild);
                long text = characters();
                Due.is(name, x.type(k, text, n), y.type(k, text, n));
            }
            case 23, 24, 25 -> {
                int how = upTo(8, wild);
                int names = upTo(256, wild);
                int limit = limit(how, wild);
                int life = life(wild);
                Due.is(name, x.sign(d, how, names, limit, life), y.sign(d, how, names, limit, life));
            }
            case 26 -> {
                int k = upTo(4, wild);
                int more = random.nextInt(5) - 2;
                Due.is(name, x.spoil(k, more), y.spoil(k, more));
            }
            default -> {
                int selector = upTo(2, wild);
                Due.is(name, x.link(d, selector), y.link(d, selector));
            }
        }
    }

    private void ask(int choice, String name, int d, int wild) {
        int k = upTo(4, wild);
        switch (choice) {
            case 29 -> Due.is(name, x.home(d), y.home(d));
            case 30, 31 -> {
                boolean relaxed = random.nextBoolean();
                int part = orNone(6, wild);
                Due.is(name, x.length(part, relaxed), y.length(part, relaxed));
            }
            case 32, 33, 34 -> Due.is(name, x.signature(k), y.signature(k));
            case 35, 36 -> Due.is(name, x.sender(), y.sender());
            case 37, 38 -> Due.is(name, x.counted(k), y.counted(k));
            case 39, 40 -> Due.is(name, x.chain(), y.chain());
            case 41, 42, 43 -> {
                int draw = upTo(100, wild);
                Due.is(name, x.judge(draw), y.judge(draw));
            }
            default -> {
                int row = upTo(13, wild);
                int what = upTo(6, wild);
                Due.is(name, x.row(row, what), y.row(row, what));
            }
        }
    }
}
