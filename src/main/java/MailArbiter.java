/** A gateway that judges mail by what domains publish; README.md tells how it is used. */
public final class MailArbiter {
    public static final int NONE = -1;
    public static final int FULL = -2;

    private static final int MOST_DOMAINS = 20;
    private static final int MOST_HOSTS = 2;
    private static final int MOST_TERMS = 6;
    private static final int MOST_LOOKUPS = 10;
    private static final int MOST_EMPTIES = 2;
    private static final int ADDRESS_BITS = 32;
    private static final int SELECTORS = 2;
    private static final int HIGHEST_KEY = 1000000;
    private static final int MOST_HEADERS = 6;
    private static final int HEADER_ROOM = 24;
    private static final int BODY_ROOM = 90;
    private static final int MOST_SIGNATURES = 3;
    private static final int MOST_LINKS = 4;
    private static final int MOST_ROWS = 12;
    private static final int LONGEST_LIFE = 100000;
    private static final int LONGEST_TICK = 1000;
    private static final int WHOLE_PART = 100;
    private static final int HIGHEST_SIGN = 3;
    private static final int HIGHEST_NAME = 7;
    private static final int HIGHEST_DRAW = 99;

    private static final int HOST_ADDRESS = 0;
    private static final int HOST_EXCHANGER = 1;

    private static final int KIND_ALL = 0;
    private static final int KIND_ADDRESS = 1;
    private static final int KIND_ADDRESSES = 2;
    private static final int KIND_EXCHANGERS = 3;
    private static final int KIND_INCLUDING = 4;
    private static final int KIND_EXISTING = 5;
    private static final int KIND_REDIRECT = 6;

    private static final int NO_RESULT = 0;
    private static final int PASS = 1;
    private static final int FAIL = 2;
    private static final int NEUTRAL = 4;
    private static final int ERROR_FOR_NOW = 5;
    private static final int ERROR_FOR_EVER = 6;

    private static final int RELAXED_HEADERS = 1;
    private static final int RELAXED_BODY = 2;
    private static final int ALL_WAYS = 3;
    private static final int ALL_NAMES = 255;

    private static final int CHAIN_NONE = 0;
    private static final int CHAIN_GOOD = 1;
    private static final int CHAIN_BAD = 2;

    private static final int NOTHING = 0;
    private static final int REFUSE = 2;
    private static final int STRICT_SIGNATURES = 1;
    private static final int STRICT_SENDER = 2;
    private static final int ALL_STRICT = 3;
    private static final int AGREED = 4;

    private static final int BODY = -1;
    private static final int TAB = 9;
    private static final int LINE_END = 10;
    private static final int SPACE = 32;
    private static final int LAST_CHARACTER = 126;

    private static final long DIGEST_FACTOR = 0x9E3779B97F4A7C15L;

    private final Domain[] domains;
    private int domainCount;
    private final Policy noPolicy;
    private final Mail mail;
    private final Check check;
    private final Row[] rows;
    private int rowCount;
    private int time;

    public MailArbiter() {
        domains = new Domain[MOST_DOMAINS];
        for (int i = 0; i < MOST_DOMAINS; i++) {
            domains[i] = new Domain();
        }
        domainCount = 0;
        noPolicy = new Policy();
        mail = new Mail();
        check = new Check();
        rows = new Row[MOST_ROWS];
        for (int i = 0; i < MOST_ROWS; i++) {
            rows[i] = new Row();
        }
        rowCount = 0;
        time = 0;
    }

    public int domain(int parent, boolean suffix) {
        if (parent != NONE && !isDomain(parent)) {
            return NONE;
        }
        if (domainCount >= MOST_DOMAINS) {
            return FULL;
        }
        int d = domainCount;
        domains[d].suffix = suffix || parent == NONE;
        domains[d].home = homeUnder(parent, d);
        domainCount++;
        return d;
    }

    public int home(int d) {
        return isDomain(d) ? domains[d].home : NONE;
    }

    public boolean silent(int d, boolean is) {
        if (!isDomain(d)) {
            return false;
        }
        domains[d].silent = is;
        return true;
    }

    public int host(int d, int kind, int v) {
        if (!isDomain(d) || !isWithin(kind, HOST_ADDRESS, HOST_EXCHANGER)) {
            return NONE;
        }
        if (kind == HOST_ADDRESS) {
            return domains[d].addresses.append(v);
        }
        return isDomain(v) ? domains[d].exchangers.append(v) : NONE;
    }

    public int rule(int d, int sign, int kind, int v, int length) {
        if (!isDomain(d) || !isWithin(kind, KIND_ALL, KIND_REDIRECT)) {
            return NONE;
        }
        if (kind >= KIND_ADDRESSES && !isDomain(v)) {
            return NONE;
        }
        Rule rule = domains[d].rule;
        if (kind == KIND_REDIRECT) {
            return rule.redirectTo(v);
        }
        if (!isWithin(sign, 0, HIGHEST_SIGN) || hasLength(kind) && !isWithin(length, 0, ADDRESS_BITS)) {
            return NONE;
        }
        return rule.append(sign, kind, v, length);
    }

    public boolean key(int d, int selector, int key) {
        if (!isDomain(d) || !isSelector(selector) || !isWithin(key, 0, HIGHEST_KEY)) {
            return false;
        }
        domains[d].keys[selector] = key;
        return true;
    }

    public boolean policy(int d, int own, int below, int strict, int part) {
        if (!isDomain(d)) {
            return false;
        }
        Policy policy = domains[d].policy;
        if (own == -1) {
            policy.present = false;
            return true;
        }
        if (!isWithin(own, NOTHING, REFUSE) || !isWithin(below, NOTHING, REFUSE)
                || !isWithin(strict, 0, ALL_STRICT) || !isWithin(part, 0, WHOLE_PART)) {
            return false;
        }
        policy.fill(own, below, strict, part);
        return true;
    }

    public boolean mail(int sender, int author, int address) {
        if (!isDomain(sender) || !isDomain(author)) {
            return false;
        }
        mail.begin(sender, author, address);
        return true;
    }

    public int header(int name) {
        if (!mail.present || !isWithin(name, 0, HIGHEST_NAME)) {
            return NONE;
        }
        return mail.appendHeader(name);
    }

    public int type(int k, long characters, int n) {
        Text text = mail.partAt(k);
        if (text == null || !isWithin(n, 1, 8) || !areAllowed(characters, n, k == BODY)) {
            return NONE;
        }
        return text.appendBytes(characters, n);
    }

    public int length(int k, boolean relaxed) {
        Text text = mail.partAt(k);
        if (text == null) {
            return NONE;
        }
        return k == BODY ? mail.bodyForm(relaxed).count : mail.headerForm(text, relaxed).count;
    }

    public int sign(int d, int how, int names, int limit, int life) {
        int selector = how & 1;
        int way = how >> 1;
        if (!mail.present || !isWithin(way, 0, ALL_WAYS) || !hasKey(d, selector)) {
            return NONE;
        }
        if (!isWithin(names, 0, ALL_NAMES) || limit < -1 || !isWithin(life, -1, LONGEST_LIFE)) {
            return NONE;
        }
        if (limit > mail.bodyForm((way & RELAXED_BODY) != 0).count) {
            return NONE;
        }
        Signature next = mail.nextSignature();
        if (next == null) {
            return FULL;
        }
        next.fill(d, selector, way, names, limit, life == -1 ? -1 : time + life);
        mail.seal(next, domains[d].keys[selector]);
        mail.signatureCount++;
        return mail.signatureCount - 1;
    }

    public boolean spoil(int k, int more) {
        if (!isSignature(k)) {
            return false;
        }
        mail.signatures[k].seal += more;
        return true;
    }

    public int signature(int k) {
        return isSignature(k) ? checkSignature(mail.signatures[k]) : NONE;
    }

    public int sender() {
        return mail.present ? check.start(domains, mail.sender, mail.address) : NONE;
    }

    public int counted(int what) {
        switch (what) {
            case 0:
                return check.lookups;
            case 1:
                return check.empties;
            default:
                return 0;
        }
    }

    public int chain() {
        return mail.present ? chainState() : NONE;
    }

    public int link(int d, int selector) {
        if (!mail.present || !hasKey(d, selector)) {
            return NONE;
        }
        int state = chainState();
        if (state == CHAIN_BAD) {
            return NONE;
        }
        return mail.appendLink(d, selector, state, domains[d].keys[selector]);
    }

    public int judge(int draw) {
        if (!mail.present || !isWithin(draw, 0, HIGHEST_DRAW)) {
            return NONE;
        }
        int result = check.start(domains, mail.sender, mail.address);
        Policy policy = policyOfAuthor();
        boolean agrees = senderAgrees(result, policy) || signatureAgrees(policy);
        int done = agrees ? NOTHING : actionBy(policy, draw);
        report(domains[mail.author].home, mail.address, done, result);
        return agrees ? done + AGREED : done;
    }

    public int row(int k, int what) {
        return isWithin(k, 0, rowCount - 1) ? rows[k].fieldAt(what) : NONE;
    }

    public int tick(int n) {
        if (!isWithin(n, 0, LONGEST_TICK)) {
            return NONE;
        }
        time += n;
        return time;
    }

    private static boolean isWithin(int value, int lowest, int highest) {
        return value >= lowest && value <= highest;
    }

    private static boolean isSelector(int selector) {
        return isWithin(selector, 0, SELECTORS - 1);
    }

    private static boolean hasLength(int kind) {
        return isWithin(kind, KIND_ADDRESS, KIND_EXCHANGERS);
    }

    private static boolean isBlank(int character) {
        return character == TAB || character == SPACE;
    }

    private static boolean areAllowed(long characters, int n, boolean inBody) {
        for (int i = 0; i < n; i++) {
            int c = byteAt(characters, i);
            boolean visible = isWithin(c, SPACE, LAST_CHARACTER);
            if (!visible && c != TAB && !(inBody && c == LINE_END)) {
                return false;
            }
        }
        return true;
    }

    private static int byteAt(long characters, int fromLowest) {
        return (int) (characters >>> (8 * fromLowest)) & 255;
    }

    private static boolean agree(int a, int b, int length) {
        // Java takes a shift by 32 as one by 0, so no bits at all need a case of their own.
        return length == 0 || (a ^ b) >>> (ADDRESS_BITS - length) == 0;
    }

    private static long mix(long h, int x) {
        long product = (h ^ x) * DIGEST_FACTOR;
        return product ^ (product >>> 30);
    }

    private static long mixText(long h, Text text, int n) {
        long mixed = h;
        for (int i = 0; i < n && i < text.count; i++) {
            mixed = mix(mixed, text.characters[i]);
        }
        return mixed;
    }

    private static int digestOf(long h) {
        return (int) (h >>> 33);
    }

    private boolean isDomain(int d) {
        return isWithin(d, 0, domainCount - 1);
    }

    private boolean isSignature(int k) {
        return isWithin(k, 0, mail.signatureCount - 1);
    }

    private boolean hasKey(int d, int selector) {
        return isDomain(d) && isSelector(selector) && domains[d].keys[selector] != 0;
    }

    // A parent's suffix and home never change, so the way up need not be gone again.
    private int homeUnder(int parent, int d) {
        if (domains[d].suffix || domains[parent].suffix) {
            return d;
        }
        return domains[parent].home;
    }

    private int checkSignature(Signature s) {
        Domain signer = domains[s.domain];
        if (signer.silent) {
            return ERROR_FOR_NOW;
        }
        int key = signer.keys[s.selector];
        if (key == 0 || s.expires != -1 && s.expires <= time) {
            return ERROR_FOR_EVER;
        }
        if (s.limit > mail.bodyForm(s.isBodyRelaxed()).count) {
            return ERROR_FOR_EVER;
        }
        boolean same = s.bodyDigest == mail.bodyDigestFor(s) && s.seal == mail.sealFor(s, key);
        return same ? PASS : FAIL;
    }

    private int chainState() {
        if (mail.linkCount == 0) {
            return CHAIN_NONE;
        }
        for (int i = 0; i < mail.linkCount; i++) {
            if (!isLinkGood(i)) {
                return CHAIN_BAD;
            }
        }
        Signature last = mail.links[mail.linkCount - 1].signature;
        return checkSignature(last) == PASS ? CHAIN_GOOD : CHAIN_BAD;
    }

    private boolean isLinkGood(int i) {
        Link link = mail.links[i];
        Domain signer = domains[link.signature.domain];
        int key = signer.keys[link.signature.selector];
        int due = i == 0 ? CHAIN_NONE : CHAIN_GOOD;
        return !signer.silent && key != 0 && link.state == due && link.cover == mail.coverFor(i, key);
    }

    private Policy policyOfAuthor() {
        Domain author = domains[mail.author];
        Domain home = domains[author.home];
        if (author.silent || home.silent) {
            return noPolicy;
        }
        if (author.policy.present) {
            return author.policy;
        }
        return home.policy.present ? home.policy : noPolicy;
    }

    private boolean senderAgrees(int result, Policy policy) {
        return result == PASS && isAligned(mail.sender, (policy.strict & STRICT_SENDER) != 0);
    }

    private boolean signatureAgrees(Policy policy) {
        boolean strict = (policy.strict & STRICT_SIGNATURES) != 0;
        for (int i = 0; i < mail.signatureCount; i++) {
            Signature s = mail.signatures[i];
            if (isAligned(s.domain, strict) && checkSignature(s) == PASS) {
                return true;
            }
        }
        return false;
    }

    private boolean isAligned(int d, boolean strict) {
        return d == mail.author || !strict && domains[d].home == domains[mail.author].home;
    }

    private int actionBy(Policy policy, int draw) {
        int action = domains[mail.author].policy.present ? policy.own : policy.below;
        return draw >= policy.part && action > NOTHING ? action - 1 : action;
    }

    private void report(int home, int address, int done, int result) {
        for (int i = 0; i < rowCount; i++) {
            if (rows[i].isFor(home, address, done, result)) {
                rows[i].times++;
                return;
            }
        }
        if (rowCount < MOST_ROWS) {
            rows[rowCount].fill(home, address, done, result);
            rowCount++;
        }
    }

    /** What one domain publishes. */
    private static final class Domain {
        boolean suffix;
        int home;
        boolean silent;
        final Hosts addresses = new Hosts();
        final Hosts exchangers = new Hosts();
        final Rule rule = new Rule();
        final int[] keys = new int[SELECTORS];
        final Policy policy = new Policy();
    }

    /** The few addresses or exchangers of a domain. */
    private static final class Hosts {
        final int[] values = new int[MOST_HOSTS];
        int count;

        int append(int value) {
            if (count >= MOST_HOSTS) {
                return FULL;
            }
            values[count] = value;
            count++;
            return count;
        }

        boolean holdOneLike(int address, int length) {
            for (int i = 0; i < count; i++) {
                if (agree(values[i], address, length)) {
                    return true;
                }
            }
            return false;
        }
    }

    /** Who may send for a domain. */
    private static final class Rule {
        boolean present;
        int count;
        final int[] signs = new int[MOST_TERMS];
        final int[] kinds = new int[MOST_TERMS];
        final int[] values = new int[MOST_TERMS];
        final int[] lengths = new int[MOST_TERMS];
        int redirect = NONE;

        int append(int sign, int kind, int value, int length) {
            if (count >= MOST_TERMS) {
                return FULL;
            }
            signs[count] = sign;
            kinds[count] = kind;
            values[count] = value;
            lengths[count] = length;
            count++;
            present = true;
            return count;
        }

        int redirectTo(int d) {
            redirect = d;
            present = true;
            return count;
        }
    }

    /** What a domain wants done; a new one is what counts where there is none. */
    private static final class Policy {
        boolean present;
        int own = NOTHING;
        int below = NOTHING;
        int strict;
        int part = WHOLE_PART;

        void fill(int own, int below, int strict, int part) {
            this.own = own;
            this.below = below;
            this.strict = strict;
            this.part = part;
            present = true;
        }
    }

    /** One check of an address by a domain, with what it counts over all domains that it asks. */
    private static final class Check {
        private static final int NO_MATCH = 0;
        private static final int MATCH = 1;

        int lookups;
        int empties;

        int start(Domain[] domains, int d, int address) {
            lookups = 0;
            empties = 0;
            return resultBy(domains, d, address);
        }

        // It calls itself only behind a counted lookup, so it is never more than eleven deep.
        private int resultBy(Domain[] domains, int d, int address) {
            if (domains[d].silent) {
                return ERROR_FOR_NOW;
            }
            Rule rule = domains[d].rule;
            if (!rule.present) {
                return NO_RESULT;
            }
            for (int i = 0; i < rule.count; i++) {
                int outcome = outcomeOf(domains, rule, i, address);
                if (outcome == MATCH) {
                    return PASS + rule.signs[i];
                }
                if (outcome != NO_MATCH) {
                    return outcome;
                }
            }
            return rule.redirect == NONE ? NEUTRAL : redirected(domains, rule.redirect, address);
        }

        private int redirected(Domain[] domains, int d, int address) {
            if (isLookupTooMany()) {
                return ERROR_FOR_EVER;
            }
            int result = resultBy(domains, d, address);
            return result == NO_RESULT ? ERROR_FOR_EVER : result;
        }

        /** MATCH, NO_MATCH, or the error that ends the whole check. */
        private int outcomeOf(Domain[] domains, Rule rule, int term, int address) {
            int kind = rule.kinds[term];
            int value = rule.values[term];
            int length = rule.lengths[term];
            if (kind == KIND_ALL) {
                return MATCH;
            }
            if (kind == KIND_ADDRESS) {
                return matchIf(agree(value, address, length));
            }
            if (isLookupTooMany()) {
                return ERROR_FOR_EVER;
            }
            if (kind == KIND_INCLUDING) {
                return including(domains, value, address);
            }
            if (domains[value].silent) {
                return ERROR_FOR_NOW;
            }
            Hosts hosts = kind == KIND_EXCHANGERS ? domains[value].exchangers : domains[value].addresses;
            if (hosts.count == 0) {
                return empty();
            }
            if (kind == KIND_EXCHANGERS) {
                return exchangers(domains, hosts, address, length);
            }
            return matchIf(kind == KIND_EXISTING || hosts.holdOneLike(address, length));
        }

        private int including(Domain[] domains, int d, int address) {
            int result = resultBy(domains, d, address);
            if (result == NO_RESULT) {
                return ERROR_FOR_EVER;
            }
            boolean isError = result == ERROR_FOR_NOW || result == ERROR_FOR_EVER;
            return isError ? result : matchIf(result == PASS);
        }

        private int exchangers(Domain[] domains, Hosts hosts, int address, int length) {
            for (int i = 0; i < hosts.count; i++) {
                Domain exchanger = domains[hosts.values[i]];
                if (exchanger.silent) {
                    return ERROR_FOR_NOW;
                }
                if (exchanger.addresses.holdOneLike(address, length)) {
                    return MATCH;
                }
            }
            return NO_MATCH;
        }

        private int empty() {
            empties++;
            return empties > MOST_EMPTIES ? ERROR_FOR_EVER : NO_MATCH;
        }

        private boolean isLookupTooMany() {
            lookups++;
            return lookups > MOST_LOOKUPS;
        }

        private static int matchIf(boolean matches) {
            return matches ? MATCH : NO_MATCH;
        }
    }

    /** Characters up to a room that is never outgrown. */
    private static final class Text {
        final int[] characters;
        int count;

        Text(int room) {
            characters = new int[room];
        }

        int appendBytes(long bytes, int n) {
            if (count + n > characters.length) {
                return FULL;
            }
            for (int i = n - 1; i >= 0; i--) {
                append(byteAt(bytes, i));
            }
            return count;
        }

        void becomeSimple(Text from) {
            count = 0;
            for (int i = 0; i < from.count; i++) {
                append(from.characters[i]);
            }
        }

        /** One space for each run of blanks, but none before a line's end or at the end. */
        void becomeRelaxed(Text from, boolean mayBeginBlank) {
            count = 0;
            boolean afterBlank = false;
            for (int i = 0; i < from.count; i++) {
                int c = from.characters[i];
                if (isBlank(c)) {
                    afterBlank = true;
                    continue;
                }
                if (afterBlank && c != LINE_END && (mayBeginBlank || count > 0)) {
                    append(SPACE);
                }
                afterBlank = false;
                append(c);
            }
        }

        void endWithOneLineEnd() {
            while (count > 0 && characters[count - 1] == LINE_END) {
                count--;
            }
            append(LINE_END);
        }

        private void append(int character) {
            if (count < characters.length) {
                characters[count] = character;
                count++;
            }
        }
    }

    /** A domain's word for the mail as it was when it signed. */
    private static final class Signature {
        int domain;
        int selector;
        int way;
        int names;
        int limit;
        int expires;
        int bodyDigest;
        int seal;

        void fill(int domain, int selector, int way, int names, int limit, int expires) {
            this.domain = domain;
            this.selector = selector;
            this.way = way;
            this.names = names;
            this.limit = limit;
            this.expires = expires;
        }

        boolean isBodyRelaxed() {
            return (way & RELAXED_BODY) != 0;
        }

        boolean isHeaderRelaxed() {
            return (way & RELAXED_HEADERS) != 0;
        }

        boolean hasName(int name) {
            return (names >> name & 1) != 0;
        }
    }

    /** One seal of the chain. */
    private static final class Link {
        final Signature signature = new Signature();
        int state;
        int cover;
    }

    /** The one mail at hand; a new one takes the room of the one before. */
    private static final class Mail {
        boolean present;
        int sender;
        int author;
        int address;
        final int[] names = new int[MOST_HEADERS];
        final Text[] headers = new Text[MOST_HEADERS];
        int headerCount;
        final Text body = new Text(BODY_ROOM);
        // One more than the body, for the line's end that its canonical form may gain.
        final Text form = new Text(BODY_ROOM + 1);
        final Signature[] signatures = new Signature[MOST_SIGNATURES];
        int signatureCount;
        final Link[] links = new Link[MOST_LINKS];
        int linkCount;

        Mail() {
            for (int i = 0; i < MOST_HEADERS; i++) {
                headers[i] = new Text(HEADER_ROOM);
            }
            for (int i = 0; i < MOST_SIGNATURES; i++) {
                signatures[i] = new Signature();
            }
            for (int i = 0; i < MOST_LINKS; i++) {
                links[i] = new Link();
            }
        }

        void begin(int sender, int author, int address) {
            this.sender = sender;
            this.author = author;
            this.address = address;
            present = true;
            headerCount = 0;
            body.count = 0;
            signatureCount = 0;
            linkCount = 0;
        }

        int appendHeader(int name) {
            if (headerCount >= MOST_HEADERS) {
                return FULL;
            }
            names[headerCount] = name;
            headers[headerCount].count = 0;
            headerCount++;
            return headerCount - 1;
        }

        /** The body, a header, or null when there is none such. */
        Text partAt(int k) {
            if (present && k == BODY) {
                return body;
            }
            return isWithin(k, 0, headerCount - 1) ? headers[k] : null;
        }

        Text headerForm(Text header, boolean relaxed) {
            if (relaxed) {
                form.becomeRelaxed(header, false);
            } else {
                form.becomeSimple(header);
            }
            return form;
        }

        Text bodyForm(boolean relaxed) {
            if (relaxed) {
                form.becomeRelaxed(body, true);
            } else {
                form.becomeSimple(body);
            }
            form.endWithOneLineEnd();
            return form;
        }

        /** The room for one more signature, or null when there is none left. */
        Signature nextSignature() {
            return signatureCount < MOST_SIGNATURES ? signatures[signatureCount] : null;
        }

        int appendLink(int d, int selector, int state, int key) {
            if (linkCount >= MOST_LINKS) {
                return FULL;
            }
            Link next = links[linkCount];
            next.signature.fill(d, selector, ALL_WAYS, ALL_NAMES, -1, -1);
            seal(next.signature, key);
            next.state = state;
            next.cover = coverFor(linkCount, key);
            linkCount++;
            return linkCount - 1;
        }

        void seal(Signature s, int key) {
            s.bodyDigest = bodyDigestFor(s);
            s.seal = sealFor(s, key);
        }

        int bodyDigestFor(Signature s) {
            Text canonical = bodyForm(s.isBodyRelaxed());
            return digestOf(mixText(0L, canonical, s.limit == -1 ? canonical.count : s.limit));
        }

        int sealFor(Signature s, int key) {
            long h = mix(0L, key);
            h = mix(h, s.domain);
            h = mix(h, s.selector);
            h = mix(h, s.way);
            h = mix(h, s.names);
            h = mix(h, s.limit);
            h = mix(h, s.expires);
            h = mix(h, s.bodyDigest);
            for (int i = 0; i < headerCount; i++) {
                if (s.hasName(names[i])) {
                    h = mix(h, names[i]);
                    Text canonical = headerForm(headers[i], s.isHeaderRelaxed());
                    h = mixText(h, canonical, canonical.count);
                    h = mix(h, 0);
                }
            }
            return digestOf(h);
        }

        int coverFor(int i, int key) {
            Link link = links[i];
            long h = mix(0L, key);
            h = mix(h, link.signature.domain);
            h = mix(h, link.signature.selector);
            h = mix(h, link.state);
            h = mix(h, link.signature.seal);
            for (int before = 0; before < i; before++) {
                h = mix(h, links[before].cover);
            }
            return digestOf(h);
        }
    }

    /** One line of the report. */
    private static final class Row {
        int home;
        int address;
        int done;
        int result;
        int times;

        void fill(int home, int address, int done, int result) {
            this.home = home;
            this.address = address;
            this.done = done;
            this.result = result;
            times = 1;
        }

        boolean isFor(int home, int address, int done, int result) {
            return this.home == home && this.address == address
                    && this.done == done && this.result == result;
        }

        int fieldAt(int what) {
            switch (what) {
                case 0:
                    return home;
                case 1:
                    return address;
                case 2:
                    return done;
                case 3:
                    return result;
                case 4:
                    return times;
                default:
                    return NONE;
            }
        }
    }
}
