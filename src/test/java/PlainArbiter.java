import java.util.ArrayList;
import java.util.List;

/**
 * The document once more, written for plainness with texts and lists and without regard for room,
 * so that long runs of calls have something to be compared with.
 */
final class PlainArbiter {
    private static final class Ended extends RuntimeException {
        private static final long serialVersionUID = 1L;
        final int result;

        Ended(int result) {
            this.result = result;
        }
    }

    private record Term(int sign, int kind, int v, int length) {
    }

    private record Policy(int own, int below, int strict, int part) {
    }

    private record Header(int name, StringBuilder text) {
    }

    private static final class Domain {
        int parent;
        boolean told;
        boolean silent;
        boolean hasRule;
        Integer redirect;
        Policy policy;
        final int[] keys = new int[2];
        final List<Integer> addresses = new ArrayList<>();
        final List<Integer> exchangers = new ArrayList<>();
        final List<Term> terms = new ArrayList<>();
    }

    private static final class Signature {
        int d, selector, way, names, limit, expires, body, seal;
    }

    private static final class Link {
        Signature signature;
        int state, cover;
    }

    private static final class Mail {
        int sender, author, address;
        final List<Header> headers = new ArrayList<>();
        final StringBuilder body = new StringBuilder();
        final List<Signature> signatures = new ArrayList<>();
        final List<Link> links = new ArrayList<>();
    }

    private final List<Domain> domains = new ArrayList<>();
    private final List<int[]> rows = new ArrayList<>();
    private Mail mail;
    private int time, lookups, empties;

    private boolean no(int d) {
        return d < 0 || d >= domains.size();
    }

    int domain(int parent, boolean suffix) {
        if (parent != -1 && no(parent)) return -1;
        if (domains.size() == 20) return -2;
        Domain d = new Domain();
        d.parent = parent;
        d.told = suffix;
        domains.add(d);
        return domains.size() - 1;
    }

    private boolean suffix(int d) {
        return domains.get(d).parent == -1 || domains.get(d).told;
    }

    int home(int d) {
        if (no(d)) return -1;
        if (suffix(d)) return d;
        int at = d;
        while (!suffix(domains.get(at).parent)) at = domains.get(at).parent;
        return at;
    }

    boolean silent(int d, boolean is) {
        if (no(d)) return false;
        domains.get(d).silent = is;
        return true;
    }

    int host(int d, int kind, int v) {
        if (no(d) || kind != 0 && kind != 1 || kind == 1 && no(v)) return -1;
        List<Integer> list = kind == 0 ? domains.get(d).addresses : domains.get(d).exchangers;
        if (list.size() == 2) return -2;
        list.add(v);
        return list.size();
    }

    int rule(int d, int sign, int kind, int v, int length) {
        if (no(d) || kind < 0 || kind > 6) return -1;
        if (kind != 6 && (sign < 0 || sign > 3)) return -1;
        if (kind >= 1 && kind <= 3 && (length < 0 || length > 32)) return -1;
        if (kind >= 2 && no(v)) return -1;
        Domain domain = domains.get(d);
        if (kind != 6 && domain.terms.size() == 6) return -2;
        domain.hasRule = true;
        if (kind == 6) domain.redirect = v;
        else domain.terms.add(new Term(sign, kind, v, length));
        return domain.terms.size();
    }

    boolean key(int d, int selector, int key) {
        if (no(d) || selector < 0 || selector > 1 || key < 0 || key > 1000000) return false;
        domains.get(d).keys[selector] = key;
        return true;
    }

    boolean policy(int d, int own, int below, int strict, int part) {
        if (no(d)) return false;
        if (own != -1) {
            if (own < 0 || own > 2 || below < 0 || below > 2) return false;
            if (strict < 0 || strict > 3 || part < 0 || part > 100) return false;
        }
        domains.get(d).policy = own == -1 ? null : new Policy(own, below, strict, part);
        return true;
    }

    boolean mail(int sender, int author, int address) {
        if (no(sender) || no(author)) return false;
        mail = new Mail();
        mail.sender = sender;
        mail.author = author;
        mail.address = address;
        return true;
    }

    int header(int name) {
        if (mail == null || name < 0 || name > 7) return -1;
        if (mail.headers.size() == 6) return -2;
        mail.headers.add(new Header(name, new StringBuilder()));
        return mail.headers.size() - 1;
    }

    int type(int k, long characters, int n) {
        if (mail == null || k < -1 || k >= mail.headers.size() || n < 1 || n > 8) return -1;
        String more = "";
        for (int i = 0; i < n; i++) {
            char c = (char) (characters & 255);
            if (c != 9 && (c != 10 || k != -1) && (c < 32 || c > 126)) return -1;
            more = c + more;
            characters >>= 8;
        }
        StringBuilder to = k == -1 ? mail.body : mail.headers.get(k).text();
        if (to.length() + n > (k == -1 ? 90 : 24)) return -2;
        return to.append(more).length();
    }

    private static String headerForm(String text, boolean relaxed) {
        if (!relaxed) return text;
        return text.replaceAll("[ \t]+", " ").replaceAll("^ ", "").replaceAll(" $", "");
    }

    private String bodyForm(boolean relaxed) {
        String text = mail.body.toString();
        if (relaxed) text = text.replaceAll("[ \t]+", " ").replace(" \n", "\n").replaceAll(" \\z", "");
        while (text.endsWith("\n")) text = text.substring(0, text.length() - 1);
        return text + "\n";
    }

    int length(int k, boolean relaxed) {
        if (mail == null || k < -1 || k >= mail.headers.size()) return -1;
        if (k == -1) return bodyForm(relaxed).length();
        return headerForm(mail.headers.get(k).text().toString(), relaxed).length();
    }

    private static int digest(List<Integer> values) {
        long h = 0;
        for (int x : values) {
            h = (h ^ x) * 0x9E3779B97F4A7C15L;
            h ^= h >>> 30;
        }
        return (int) (h >>> 33);
    }

    private static void addText(List<Integer> to, String text) {
        for (char c : text.toCharArray()) to.add((int) c);
    }

    private int bodyDigest(Signature s) {
        String text = bodyForm((s.way & 2) == 2);
        List<Integer> values = new ArrayList<>();
        addText(values, s.limit == -1 ? text : text.substring(0, s.limit));
        return digest(values);
    }

    private int seal(Signature s) {
        int key = domains.get(s.d).keys[s.selector];
        List<Integer> values = new ArrayList<>(
                List.of(key, s.d, s.selector, s.way, s.names, s.limit, s.expires, s.body));
        for (Header h : mail.headers) {
            if ((s.names & 1 << h.name()) == 0) continue;
            values.add(h.name());
            addText(values, headerForm(h.text().toString(), (s.way & 1) == 1));
            values.add(0);
        }
        return digest(values);
    }

    private Signature signed(int d, int selector, int way, int names, int limit, int expires) {
        Signature s = new Signature();
        s.d = d;
        s.selector = selector;
        s.way = way;
        s.names = names;
        s.limit = limit;
        s.expires = expires;
        s.body = bodyDigest(s);
        s.seal = seal(s);
        return s;
    }

    int sign(int d, int how, int names, int limit, int life) {
        if (mail == null || no(d) || how < 0 || how > 7 || domains.get(d).keys[how % 2] == 0) return -1;
        if (names < 0 || names > 255 || limit < -1 || life < -1 || life > 100000) return -1;
        if (limit > bodyForm(how / 2 >= 2).length()) return -1;
        if (mail.signatures.size() == 3) return -2;
        mail.signatures.add(signed(d, how % 2, how / 2, names, limit, life == -1 ? -1 : time + life));
        return mail.signatures.size() - 1;
    }

    private boolean noSignature(int k) {
        return mail == null || k < 0 || k >= mail.signatures.size();
    }

    boolean spoil(int k, int more) {
        if (noSignature(k)) return false;
        mail.signatures.get(k).seal += more;
        return true;
    }

    private int check(Signature s) {
        Domain d = domains.get(s.d);
        if (d.silent) return 5;
        if (d.keys[s.selector] == 0) return 6;
        if (s.expires != -1 && !(s.expires > time)) return 6;
        if (s.limit > bodyForm((s.way & 2) == 2).length()) return 6;
        if (s.body != bodyDigest(s)) return 2;
        if (s.seal != seal(s)) return 2;
        return 1;
    }

    int signature(int k) {
        return noSignature(k) ? -1 : check(mail.signatures.get(k));
    }

    private static boolean agree(int a, int b, int length) {
        for (int i = 0; i < length; i++) {
            if ((a >> (31 - i) & 1) != (b >> (31 - i) & 1)) return false;
        }
        return true;
    }

    private boolean oneAgrees(int d, int length) {
        for (int a : domains.get(d).addresses) {
            if (agree(a, mail.address, length)) return true;
        }
        return false;
    }

    private void lookup() {
        lookups++;
        if (lookups == 11) throw new Ended(6);
    }

    private boolean empty() {
        empties++;
        if (empties == 3) throw new Ended(6);
        return false;
    }

    private Domain heard(int d) {
        if (domains.get(d).silent) throw new Ended(5);
        return domains.get(d);
    }

    private boolean matches(Term t) {
        if (t.kind() == 0) return true;
        if (t.kind() == 1) return agree(t.v(), mail.address, t.length());
        lookup();
        Domain d = heard(t.v());
        if (t.kind() == 2) return d.addresses.isEmpty() ? empty() : oneAgrees(t.v(), t.length());
        if (t.kind() == 5) return d.addresses.isEmpty() ? empty() : true;
        if (t.kind() == 4) {
            int result = checkBy(t.v());
            if (result == 0) throw new Ended(6);
            if (result >= 5) throw new Ended(result);
            return result == 1;
        }
        if (d.exchangers.isEmpty()) return empty();
        for (int e : d.exchangers) {
            heard(e);
            if (oneAgrees(e, t.length())) return true;
        }
        return false;
    }

    private int checkBy(int d) {
        Domain domain = heard(d);
        if (!domain.hasRule) return 0;
        for (Term t : domain.terms) {
            if (matches(t)) return t.sign() + 1;
        }
        if (domain.redirect == null) return 4;
        lookup();
        int result = checkBy(domain.redirect);
        return result == 0 ? 6 : result;
    }

    int sender() {
        if (mail == null) return -1;
        lookups = 0;
        empties = 0;
        try {
            return checkBy(mail.sender);
        } catch (Ended e) {
            return e.result;
        }
    }

    int counted(int what) {
        return what == 0 ? lookups : what == 1 ? empties : 0;
    }

    private int cover(int i) {
        Link l = mail.links.get(i);
        int key = domains.get(l.signature.d).keys[l.signature.selector];
        List<Integer> values = new ArrayList<>(
                List.of(key, l.signature.d, l.signature.selector, l.state, l.signature.seal));
        for (Link before : mail.links.subList(0, i)) values.add(before.cover);
        return digest(values);
    }

    int chain() {
        if (mail == null) return -1;
        if (mail.links.isEmpty()) return 0;
        for (int i = 0; i < mail.links.size(); i++) {
            Link l = mail.links.get(i);
            Domain d = domains.get(l.signature.d);
            if (d.silent || d.keys[l.signature.selector] == 0) return 2;
            if (l.state != (i == 0 ? 0 : 1) || l.cover != cover(i)) return 2;
        }
        return check(mail.links.get(mail.links.size() - 1).signature) == 1 ? 1 : 2;
    }

    int link(int d, int selector) {
        if (mail == null || no(d) || selector < 0 || selector > 1) return -1;
        if (domains.get(d).keys[selector] == 0 || chain() == 2) return -1;
        if (mail.links.size() == 4) return -2;
        Link l = new Link();
        l.state = chain();
        l.signature = signed(d, selector, 3, 255, -1, -1);
        mail.links.add(l);
        l.cover = cover(mail.links.size() - 1);
        return mail.links.size() - 1;
    }

    int judge(int draw) {
        if (mail == null || draw < 0 || draw > 99) return -1;
        int result = sender();
        Domain author = domains.get(mail.author);
        int home = home(mail.author);
        int does = 0;
        int strict = 0;
        int part = 100;
        Policy p = author.policy != null ? author.policy : domains.get(home).policy;
        if (p != null && !author.silent && !domains.get(home).silent) {
            does = author.policy != null ? p.own() : p.below();
            strict = p.strict();
            part = p.part();
        }
        boolean agrees = result == 1
                && (mail.sender == mail.author || strict < 2 && home(mail.sender) == home);
        for (Signature s : mail.signatures) {
            boolean near = s.d == mail.author || strict % 2 == 0 && home(s.d) == home;
            if (near && check(s) == 1) agrees = true;
        }
        if (agrees) does = 0;
        else if (draw >= part && does > 0) does--;
        count(home, mail.address, does, result);
        return agrees ? 4 : does;
    }

    private void count(int home, int address, int done, int result) {
        for (int[] row : rows) {
            if (row[0] == home && row[1] == address && row[2] == done && row[3] == result) {
                row[4]++;
                return;
            }
        }
        if (rows.size() < 12) rows.add(new int[] {home, address, done, result, 1});
    }

    int row(int k, int what) {
        if (k < 0 || k >= rows.size() || what < 0 || what > 4) return -1;
        return rows.get(k)[what];
    }

    int tick(int n) {
        if (n < 0 || n > 1000) return -1;
        time += n;
        return time;
    }
}
