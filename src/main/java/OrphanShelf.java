import java.util.Arrays;

/**
 * Works whose owners do not answer, and the libraries that want to show them: laws as texts, terms, searches,
 * letters, leaves, audits, and all of it as it was known on a day. The promises stand in DOC.md; words in
 * capitals are its words. "Behind" is later, "ahead of" is earlier.
 */
public final class OrphanShelf {
    public static final int NONE = -1;

    private static final int LANDS = 4;
    private static final int KINDS = 8;
    private static final int MARK_BITS = 8;
    private static final int LIBRARIES = 10;
    private static final int USE_KINDS = 4;
    private static final int LAST_DAY = 99999;
    private static final int YEAR_DAYS = 365;
    private static final int HUNDRED = 100;
    private static final int MOST_AT_ONCE = 100000;

    private final Tape tape;
    private final Owners owners;
    private final Works works;
    private final Traces traces;
    private final Holdings holdings;
    private final Laws laws;
    private final Rulings rulings;
    private final Orders orders;
    private final Leaves leaves;
    private final Audits audits;
    private int now;

    public OrphanShelf() {
        tape = new Tape();
        owners = new Owners();
        works = new Works();
        traces = new Traces();
        holdings = new Holdings(owners, works, traces);
        laws = new Laws(tape, works, holdings);
        rulings = new Rulings(owners, works, traces, holdings, laws);
        orders = new Orders(works, rulings);
        leaves = new Leaves(holdings, laws, rulings);
        audits = new Audits(leaves);
    }

    public boolean now(int day) {
        if (!isDay(day) || day < now) {
            return false;
        }
        now = day;
        return true;
    }

    public int owner(boolean firm, int land) {
        return isLand(land) ? owners.add(firm) : NONE;
    }

    public boolean died(int o, int from, int to) {
        return owners.isPerson(o) && isSpan(from, to) && to <= now && owners.tellDeath(o, from, to, now);
    }

    public boolean merge(int a, int b, int day) {
        return owners.isFirm(a) && owners.isFirm(b) && isDay(day) && owners.join(a, b, day, now);
    }

    public int work(int kind, int land, int from, int to, int marks, int in) {
        boolean fits = isKind(kind) && isLand(land) && isSpan(from, to) && isBelow(marks, 1 << MARK_BITS);
        return fits && works.canLieIn(in) ? works.add(kind, land, from, to, marks, in) : NONE;
    }

    public boolean share(int w, int o, int hundredths) {
        return works.has(w) && owners.has(o) && works.addShare(w, o, hundredths);
    }

    public int holds(int w, int i, int day, int t) {
        return works.has(w) && isDay(day) && isDay(t) ? holdings.holderOf(w, i, day, t) : NONE;
    }

    public int feed(int a, int b, int c, int d, int e) {
        if (!tape.hasRoom()) {
            return NONE;
        }
        tape.put(a);
        tape.put(b);
        tape.put(c);
        tape.put(d);
        tape.put(e);
        return tape.size();
    }

    public int law(int land, int from, int to, int n) {
        if (!isLand(land) || !isSpan(from, to) || laws.isFull() || n < 1 || !tape.has(n)) {
            return NONE;
        }
        int answer = laws.add(land, from, to, n);
        tape.clear();
        return answer;
    }

    public int number(int w, int land, int day, int t, int what) {
        if (!isCase(w, land, day, t)) {
            return NONE;
        }
        laws.weigh(w, land, day, t);
        return laws.result(what);
    }

    public int term(int w, int land, int day, int t, int what) {
        return isCase(w, land, day, t) && isBelow(what, 2) ? rulings.termOf(w, land, day, t, what == 1) : NONE;
    }

    public int free(int w, int land, int day, int t) {
        return isCase(w, land, day, t) ? rulings.freedom(w, land, day, t) : NONE;
    }

    public boolean source(int s, int cost) {
        return isSource(s) && cost >= 0 && cost <= Orders.MOST_COST && orders.setCost(s, cost);
    }

    public boolean chance(int s, int kind, int hundredths) {
        return isSource(s) && isKind(kind) && isBelow(hundredths, HUNDRED + 1)
                && orders.setChance(s, kind, hundredths);
    }

    public int look(int w, int s, int day, int o) {
        boolean fits = works.has(w) && isSource(s) && isTellable(day);
        return fits && (o == NONE || works.isSharedBy(w, o)) ? traces.addLook(w, s, day, o, now) : NONE;
    }

    public int letter(int o, int day) {
        return owners.has(o) && isTellable(day) ? traces.addLetter(o, day, now) : NONE;
    }

    public boolean answer(int k) {
        return traces.addAnswer(k, now);
    }

    public int found(int o, int day, int t) {
        return owners.has(o) && isDay(day) && isDay(t) ? asNumber(traces.isFound(o, day, t)) : NONE;
    }

    public int enough(int w, int land, int day, int t) {
        return isCase(w, land, day, t) ? asNumber(!rulings.lacks(w, land, day, t)) : NONE;
    }

    public int why(int w, int land, int day, int t, int what) {
        return isCase(w, land, day, t) && rulings.lacks(w, land, day, t) ? rulings.lack(what) : NONE;
    }

    public int nobody(int w, int day, int t) {
        return works.has(w) && isDay(day) && isDay(t) ? asNumber(holdings.foundShares(w, day, t) == 0) : NONE;
    }

    public boolean agree(int o, int w) {
        return owners.has(o) && works.has(w) && traces.addConsent(o, w, now);
    }

    public int ask(int library, int w, int land, int use) {
        boolean fits = isBelow(library, LIBRARIES) && works.has(w) && isLand(land) && isBelow(use, USE_KINDS);
        if (!fits || leaves.isFull()) {
            return NONE;
        }
        int verdict = leaves.verdict(w, land, 1 << use, now);
        return verdict < 0 ? verdict : leaves.give(library, w, land, use, verdict, now);
    }

    public boolean uses(int k, int day, int n, int pence) {
        boolean fits = isTellable(day) && n >= 1 && n <= MOST_AT_ONCE && pence >= 0 && pence <= MOST_AT_ONCE;
        return fits && leaves.addUses(k, day, n, pence);
    }

    public int comes(int o) {
        return owners.has(o) && traces.addComing(o, now) ? leaves.endFor(o, now) : NONE;
    }

    public long paid(int o, int k) {
        return owners.has(o) && traces.hasCome(o) ? leaves.payment(o, k, now) : NONE;
    }

    public long cheapest(int w, int land, int what) {
        if (!works.has(w) || !isLand(land) || what < NONE) {
            return NONE;
        }
        orders.gather(w, land, now);
        orders.findCheapest();
        return what == NONE ? orders.leastExpected() : orders.cheapestAt(what);
    }

    public long judge(int w, int land, int n) {
        if (!works.has(w) || !isLand(land) || !tape.has(n)) {
            return NONE;
        }
        orders.gather(w, land, now);
        long answer = orders.expectedOn(tape, n);
        tape.clear();
        return answer;
    }

    public int like(int a, int b, int bits) {
        boolean fits = works.has(a) && works.has(b) && a != b && isBelow(bits, MARK_BITS + 1);
        return fits ? asNumber(works.areAlike(a, b, bits)) : NONE;
    }

    public boolean list(int w, int land) {
        return works.has(w) && isLand(land) && works.enlist(w, land);
    }

    public int joined(int a, int b, int bits, int i, int what) {
        boolean fits = isLand(a) && isLand(b) && a != b && isBelow(bits, MARK_BITS + 1) && isBelow(what, 2);
        return fits ? works.pairAt(a, b, bits, i, what == 1) : NONE;
    }

    public int audit(int n, int seed, int what) {
        boolean fits = n >= 1 && n <= Leaves.MOST && isBelow(seed, Audits.MODULUS);
        return fits && audits.draw(n, seed) ? audits.result(what, now) : NONE;
    }

    public int shown(int land) {
        if (!isLand(land)) {
            return NONE;
        }
        int shown = 0;
        for (int w = 0; works.has(w) && w < Works.MOST; w++) {
            if (leaves.verdict(w, land, (1 << USE_KINDS) - 1, now) >= 0) {
                shown++;
            }
        }
        return shown;
    }

    public int leave(int k, int what) {
        return leaves.detail(k, what);
    }

    public int count(int what) {
        if (isBelow(what - 10, LANDS)) {
            return works.listed(what - 10);
        }
        if (isBelow(what - 20, Laws.MOST)) {
            return laws.clausesOf(what - 20);
        }
        if (isBelow(what - 40, Works.MOST)) {
            return works.has(what - 40) ? works.sharesOf(what - 40) : NONE;
        }
        switch (what) {
            case 0: return now;
            case 1: return owners.size();
            case 2: return works.size();
            case 3: return laws.size();
            case 4: return traces.looks();
            case 5: return traces.letters();
            case 6: return leaves.size();
            case 7: return leaves.tellings();
            case 8: return tape.size();
            default: return NONE;
        }
    }

    private static boolean isBelow(int value, int bound) {
        return value >= 0 && value < bound;
    }

    private static int indexOf(char[] row, int sign) {
        for (int i = 0; i < row.length; i++) {
            if (row[i] == sign) {
                return i;
            }
        }
        return NONE;
    }

    private static boolean isDay(int day) {
        return day >= 0 && day <= LAST_DAY;
    }

    private static boolean isSpan(int from, int to) {
        return isDay(from) && isDay(to) && from <= to;
    }

    private static boolean isLand(int land) {
        return isBelow(land, LANDS);
    }

    private static boolean isKind(int kind) {
        return isBelow(kind, KINDS);
    }

    private static boolean isSource(int s) {
        return isBelow(s, Orders.SOURCES);
    }

    private static int asNumber(boolean holds) {
        return holds ? 1 : 0;
    }

    private boolean isTellable(int day) {
        return day >= 0 && day <= now;
    }

    private boolean isCase(int w, int land, int day, int t) {
        return works.has(w) && isLand(land) && isDay(day) && isDay(t);
    }

    /** The bytes that were fed and not used yet. */
    private static final class Tape {
        static final int MOST = 200;
        private static final int FEED = 20;

        private final int[] bytes = new int[MOST];
        private int size;

        int size() {
            return size;
        }

        boolean hasRoom() {
            return size + FEED <= MOST;
        }

        boolean has(int n) {
            return n >= 0 && n <= size;
        }

        void put(int four) {
            for (int shift = 24; shift >= 0 && size < MOST; shift -= 8) {
                bytes[size] = four >> shift & 255;
                size++;
            }
        }

        int at(int i) {
            return i >= 0 && i < size ? bytes[i] : NONE;
        }

        void clear() {
            size = 0;
        }
    }

    /** PERSONS and FIRMS, the tellings of deaths, and which FIRM is part of which. */
    private static final class Owners {
        static final int MOST = 40;
        private static final int MOST_DEATHS = 200;

        private final boolean[] firm = new boolean[MOST];
        private final int[] partOf = new int[MOST];
        private final int[] partFrom = new int[MOST];
        private final int[] partTold = new int[MOST];
        private final int[] deathOwner = new int[MOST_DEATHS];
        private final int[] deathFirst = new int[MOST_DEATHS];
        private final int[] deathLast = new int[MOST_DEATHS];
        private final int[] deathTold = new int[MOST_DEATHS];
        private int size;
        private int deaths;

        Owners() {
            Arrays.fill(partOf, NONE);
        }

        int size() {
            return size;
        }

        boolean has(int o) {
            return o >= 0 && o < size;
        }

        boolean isPerson(int o) {
            return has(o) && !firm[o];
        }

        boolean isFirm(int o) {
            return has(o) && firm[o];
        }

        int add(boolean isFirm) {
            if (size >= MOST) {
                return NONE;
            }
            firm[size] = isFirm;
            size++;
            return size - 1;
        }

        boolean tellDeath(int o, int first, int last, int now) {
            if (deaths >= MOST_DEATHS) {
                return false;
            }
            deathOwner[deaths] = o;
            deathFirst[deaths] = first;
            deathLast[deaths] = last;
            deathTold[deaths] = now;
            deaths++;
            return true;
        }

        /** The latest telling of a PERSON's death that is KNOWN: its number, or NONE. */
        int deathOf(int o, int known) {
            for (int i = deaths - 1; i >= 0; i--) {
                if (deathOwner[i] == o && deathTold[i] <= known) {
                    return i;
                }
            }
            return NONE;
        }

        int deathDay(int telling, boolean last) {
            if (!isBelow(telling, deaths)) {
                return NONE;
            }
            return last ? deathLast[telling] : deathFirst[telling];
        }

        boolean join(int a, int b, int day, int now) {
            if (!has(a) || partOf[a] != NONE || leadsTo(b, a)) {
                return false;
            }
            partOf[a] = b;
            partFrom[a] = day;
            partTold[a] = now;
            return true;
        }

        // The days do not matter here: a ring is refused even if it would never close on one day.
        private boolean leadsTo(int from, int to) {
            int at = from;
            for (int step = 0; step < MOST && has(at); step++) {
                if (at == to) {
                    return true;
                }
                at = partOf[at];
            }
            return false;
        }

        /** Who HOLDS on a DAY, as KNOWN, what is told to be an OWNER's. */
        int holderFor(int o, int day, int known) {
            int holder = o;
            for (int step = 0; step < MOST && holder >= 0 && holder < size; step++) {
                if (partOf[holder] == NONE || partFrom[holder] > day || partTold[holder] > known) {
                    return holder;
                }
                holder = partOf[holder];
            }
            return holder;
        }
    }

    /** WORKS with their SHARES, and the LISTS on which they stand. */
    private static final class Works {
        static final int MOST = 80;
        static final int DEEPEST = 8;
        private static final int MOST_SHARES = 4;

        private final int[] kind = new int[MOST];
        private final int[] land = new int[MOST];
        private final int[] first = new int[MOST];
        private final int[] last = new int[MOST];
        private final int[] marks = new int[MOST];
        private final int[] in = new int[MOST];
        private final int[] depth = new int[MOST];
        private final int[] shares = new int[MOST];
        private final int[] shareOwner = new int[MOST * MOST_SHARES];
        private final int[] sharePart = new int[MOST * MOST_SHARES];
        private final int[] lists = new int[MOST];
        private final boolean[] taken = new boolean[MOST];
        private int size;

        int size() {
            return size;
        }

        boolean has(int w) {
            return w >= 0 && w < size;
        }

        boolean canLieIn(int other) {
            return other == NONE || has(other) && depth[other] < DEEPEST;
        }

        int add(int ofKind, int ofLand, int from, int to, int ofMarks, int other) {
            if (size >= MOST) {
                return NONE;
            }
            kind[size] = ofKind;
            land[size] = ofLand;
            first[size] = from;
            last[size] = to;
            marks[size] = ofMarks;
            in[size] = other;
            depth[size] = has(other) ? depth[other] + 1 : 1;
            size++;
            return size - 1;
        }

        int kindOf(int w) {
            return has(w) ? kind[w] : NONE;
        }

        int landOf(int w) {
            return has(w) ? land[w] : NONE;
        }

        int outerOf(int w) {
            return has(w) ? in[w] : NONE;
        }

        int outDay(int w, boolean latest) {
            if (!has(w)) {
                return NONE;
            }
            return latest ? last[w] : first[w];
        }

        int sharesOf(int w) {
            return has(w) ? shares[w] : 0;
        }

        int shareOwner(int w, int i) {
            return w >= 0 && w < size && i >= 0 && i < shares[w] ? shareOwner[w * MOST_SHARES + i] : NONE;
        }

        int sharePart(int w, int i) {
            return has(w) && i >= 0 && i < shares[w] ? sharePart[w * MOST_SHARES + i] : 0;
        }

        boolean isSharedBy(int w, int o) {
            for (int i = 0; i < sharesOf(w); i++) {
                if (shareOwner(w, i) == o) {
                    return true;
                }
            }
            return false;
        }

        boolean addShare(int w, int o, int hundredths) {
            if (!has(w) || shares[w] >= MOST_SHARES || isSharedBy(w, o)) {
                return false;
            }
            if (hundredths < 1 || hundredths > HUNDRED - partsOf(w)) {
                return false;
            }
            shareOwner[w * MOST_SHARES + shares[w]] = o;
            sharePart[w * MOST_SHARES + shares[w]] = hundredths;
            shares[w]++;
            return true;
        }

        private int partsOf(int w) {
            int sum = 0;
            for (int i = 0; i < sharesOf(w); i++) {
                sum += sharePart(w, i);
            }
            return sum;
        }

        boolean areAlike(int a, int b, int bits) {
            if (!has(a) || !has(b)) {
                return false;
            }
            return kind[a] == kind[b] && Integer.bitCount(marks[a] ^ marks[b]) <= bits
                    && first[a] <= last[b] && first[b] <= last[a];
        }

        boolean enlist(int w, int atLand) {
            if (!has(w) || isListed(w, atLand)) {
                return false;
            }
            lists[w] |= 1 << atLand;
            return true;
        }

        private boolean isListed(int w, int atLand) {
            return has(w) && (lists[w] >> atLand & 1) != 0;
        }

        int listed(int atLand) {
            int sum = 0;
            for (int w = 0; w < size; w++) {
                if (isListed(w, atLand)) {
                    sum++;
                }
            }
            return sum;
        }

        /** One side of the i-th two of the LISTS of two LANDS that are JOINED. */
        int pairAt(int one, int other, int bits, int i, boolean wantsOther) {
            clearTaken();
            int pairs = 0;
            for (int w = 0; w < size; w++) {
                int partner = isListed(w, one) ? partnerOf(w, other, bits) : NONE;
                if (!has(partner)) {
                    continue;
                }
                if (pairs == i) {
                    return wantsOther ? partner : w;
                }
                taken[partner] = true;
                pairs++;
            }
            return NONE;
        }

        private void clearTaken() {
            for (int w = 0; w < size; w++) {
                taken[w] = false;
            }
        }

        private int partnerOf(int w, int atLand, int bits) {
            for (int v = 0; v < size; v++) {
                if (v != w && !taken[v] && isListed(v, atLand) && areAlike(w, v, bits)) {
                    return v;
                }
            }
            return NONE;
        }
    }

    /** What was heard of OWNERS, and when it was told: LOOKS, LETTERS, answers, comings, consents. */
    private static final class Traces {
        private static final int MOST_LOOKS = 300;
        private static final int MOST_LETTERS = 200;
        private static final int MOST_CONSENTS = 200;

        private final int[] lookWork = new int[MOST_LOOKS];
        private final int[] lookSource = new int[MOST_LOOKS];
        private final int[] lookDay = new int[MOST_LOOKS];
        private final int[] lookOwner = new int[MOST_LOOKS];
        private final int[] lookTold = new int[MOST_LOOKS];
        private final int[] letterOwner = new int[MOST_LETTERS];
        private final int[] letterDay = new int[MOST_LETTERS];
        private final int[] letterTold = new int[MOST_LETTERS];
        private final int[] letterAnswered = new int[MOST_LETTERS];
        private final int[] consentOwner = new int[MOST_CONSENTS];
        private final int[] consentWork = new int[MOST_CONSENTS];
        private final int[] consentDay = new int[MOST_CONSENTS];
        private final int[] came = new int[Owners.MOST];
        private int looks;
        private int letters;
        private int consents;

        Traces() {
            Arrays.fill(came, NONE);
        }

        int looks() {
            return looks;
        }

        int letters() {
            return letters;
        }

        int addLook(int w, int s, int day, int o, int now) {
            if (looks >= MOST_LOOKS) {
                return NONE;
            }
            lookWork[looks] = w;
            lookSource[looks] = s;
            lookDay[looks] = day;
            lookOwner[looks] = o;
            lookTold[looks] = now;
            looks++;
            return looks - 1;
        }

        int addLetter(int o, int day, int now) {
            if (letters >= MOST_LETTERS) {
                return NONE;
            }
            letterOwner[letters] = o;
            letterDay[letters] = day;
            letterTold[letters] = now;
            letterAnswered[letters] = NONE;
            letters++;
            return letters - 1;
        }

        boolean addAnswer(int k, int now) {
            if (!isBelow(k, letters) || letterAnswered[k] != NONE) {
                return false;
            }
            letterAnswered[k] = now;
            return true;
        }

        boolean addComing(int o, int now) {
            if (!isBelow(o, came.length) || came[o] != NONE) {
                return false;
            }
            came[o] = now;
            return true;
        }

        boolean hasCome(int o) {
            return o >= 0 && o < came.length && came[o] != NONE;
        }

        boolean addConsent(int o, int w, int now) {
            if (consents >= MOST_CONSENTS || hasAgreed(o, w, now)) {
                return false;
            }
            consentOwner[consents] = o;
            consentWork[consents] = w;
            consentDay[consents] = now;
            consents++;
            return true;
        }

        boolean hasAgreed(int o, int w, int day) {
            for (int i = 0; i < consents; i++) {
                if (consentOwner[i] == o && consentWork[i] == w && consentDay[i] <= day) {
                    return true;
                }
            }
            return false;
        }

        boolean isFound(int o, int day, int known) {
            // Answers and comings are told on the day on which they happen.
            int by = Math.min(day, known);
            return hasCome(o) && came[o] <= by || hasAnswered(o, by) || isSeen(o, day, known);
        }

        private boolean hasAnswered(int o, int by) {
            for (int i = 0; i < letters; i++) {
                if (letterOwner[i] == o && letterAnswered[i] != NONE && letterAnswered[i] <= by) {
                    return true;
                }
            }
            return false;
        }

        private boolean isSeen(int o, int day, int known) {
            for (int i = 0; i < looks; i++) {
                if (lookOwner[i] == o && lookDay[i] <= day && lookTold[i] <= known) {
                    return true;
                }
            }
            return false;
        }

        /** The SOURCES, as bits, looked through for a WORK from one DAY to another, as KNOWN. */
        int lookedThrough(int w, int from, int to, int known) {
            int bits = 0;
            for (int i = 0; i < looks; i++) {
                if (lookWork[i] == w && lookDay[i] >= from && lookDay[i] <= to && lookTold[i] <= known) {
                    bits |= 1 << lookSource[i];
                }
            }
            return bits;
        }

        boolean wasWritten(int o, int by, int known) {
            for (int i = 0; i < letters; i++) {
                if (letterOwner[i] == o && letterDay[i] <= by && letterTold[i] <= known) {
                    return true;
                }
            }
            return false;
        }
    }

    /** Who HOLDS the SHARES of WORKS, and which of these are FOUND. */
    private static final class Holdings {
        private final Owners owners;
        private final Works works;
        private final Traces traces;

        Holdings(Owners owners, Works works, Traces traces) {
            this.owners = owners;
            this.works = works;
            this.traces = traces;
        }

        int holderOf(int w, int i, int day, int known) {
            int o = works.shareOwner(w, i);
            return o == NONE ? NONE : owners.holderFor(o, day, known);
        }

        int foundShares(int w, int day, int known) {
            int sum = 0;
            for (int i = 0; i < works.sharesOf(w); i++) {
                if (traces.isFound(holderOf(w, i, day, known), day, known)) {
                    sum++;
                }
            }
            return sum;
        }

        /** Whether somebody who HOLDS a SHARE on a DAY was FOUND by then and had not agreed by then. */
        boolean isUnheeded(int w, int day, int known) {
            for (int i = 0; i < works.sharesOf(w); i++) {
                int holder = holderOf(w, i, day, known);
                if (traces.isFound(holder, day, known) && !traces.hasAgreed(holder, w, day)) {
                    return true;
                }
            }
            return false;
        }

        /** The hundredths of all SHARES of a WORK that an OWNER HOLDS today: 0 for one who HOLDS none. */
        int hundredthsOf(int o, int w, int now) {
            int sum = 0;
            for (int i = 0; i < works.sharesOf(w); i++) {
                if (holderOf(w, i, now, now) == o) {
                    sum += works.sharePart(w, i);
                }
            }
            return sum;
        }
    }

    /**
     * Reads the TEXTS of LAWS from the tape, CLAUSE by CLAUSE, finds their FAULTS, and turns conditions into code
     * for a small machine with a stack: a condition is read once, and reckoned often.
     */
    private static final class Reader {
        private static final int STRANGE = 1;
        private static final int TOO_LONG = 2;
        private static final int TOO_GREAT = 3;
        private static final int TOO_MANY = 4;
        private static final int TOO_DEEP = 5;
        private static final int MOST_OPEN = 6;
        private static final int MOST_DIGITS = 6;
        // Six open brackets with two values waiting in each, and those outside of them, are below this.
        private static final int STACK = 32;
        private static final int LITERAL = 'n';
        private static final int FACT = 'v';
        // In the order in which Laws numbers the kinds of CLAUSES, each with the greatest number that it takes.
        private static final char[] LETTERS = {'a', 'l', 't', 'u', 'f', 'w', 'e', 's', 'p', 'x'};
        private static final int[] LIMITS = {999999, 999999, 999999, 999999, 999999, 100, 999999, 11, 3, 19};
        private static final char[] FACTS = {'k', 'l', 'y', 'z', 'o', 'f', 'j', 'd'};

        private final Tape tape;
        private final int[] code = new int[Laws.MOST * Tape.MOST];
        private final int[] stack = new int[STACK];
        private int codeSize;
        private int height;
        private int place;
        private int end;
        private int open;
        private int fault;
        private int kind;
        private int firstNumber;
        private int secondNumber;
        private boolean asksFound;

        Reader(Tape tape) {
            this.tape = tape;
        }

        /** Stands at the beginning of a TEXT of n bytes, and puts its code where that of a LAW belongs. */
        void begin(int law, int n) {
            codeSize = law * Tape.MOST;
            place = 0;
            end = n;
            fault = 0;
            asksFound = false;
        }

        /** Whether a condition of the TEXT asks who is FOUND. */
        boolean asksFound() {
            return asksFound;
        }

        int codeSize() {
            return codeSize;
        }

        int fault() {
            return fault;
        }

        int kind() {
            return kind;
        }

        int firstNumber() {
            return firstNumber;
        }

        int secondNumber() {
            return secondNumber;
        }

        void readClause(int number) {
            kind = indexOf(LETTERS, sign());
            if (kind == NONE || number >= Laws.CLAUSES) {
                blame(kind == NONE ? STRANGE : TOO_MANY, place);
                return;
            }
            place++;
            firstNumber = readLimited(LIMITS[kind]);
            secondNumber = NONE;
            if (kind == Laws.STRIKES) {
                pass('.');
                secondNumber = readLimited(Laws.CLAUSES - 1);
            } else if (sign() == '(') {
                open = 0;
                enter();
                anyPart();
                exit(')');
            }
        }

        /** Goes past the sign between two CLAUSES; false at the end, and with a FAULT. */
        boolean goesOn() {
            if (place >= end) {
                return false;
            }
            pass(';');
            return fault == 0;
        }

        // Behind a FAULT there are no signs any more: all that still reads then ends by itself.
        private int sign() {
            return fault == 0 && place < end ? tape.at(place) : NONE;
        }

        private void blame(int faultKind, int at) {
            if (fault == 0) {
                fault = -1000 * faultKind - at;
            }
        }

        private void pass(int wanted) {
            if (sign() == wanted) {
                place++;
            } else {
                blame(STRANGE, place);
            }
        }

        private boolean enter() {
            if (open >= MOST_OPEN) {
                blame(TOO_DEEP, place);
                return false;
            }
            open++;
            place++;
            return true;
        }

        private void exit(int wanted) {
            if (sign() != wanted) {
                blame(STRANGE, place);
            }
            open--;
            place++;
        }

        private int readLimited(int limit) {
            int at = place;
            if (!isDigit(sign())) {
                blame(STRANGE, at);
                return 0;
            }
            int value = readDigits();
            if (value > limit) {
                blame(TOO_GREAT, at);
            }
            return value;
        }

        private int readDigits() {
            int value = 0;
            for (int digits = 0; digits < MOST_DIGITS && isDigit(sign()); digits++) {
                value = value * 10 + sign() - '0';
                place++;
            }
            if (isDigit(sign())) {
                blame(TOO_LONG, place);
            }
            return value;
        }

        private static boolean isDigit(int sign) {
            return sign >= '0' && sign <= '9';
        }

        private void anyPart() {
            everyPiece();
            for (int n = 0; n < Tape.MOST && sign() == '|'; n++) {
                int jump = codeSize;
                emit('|', 0);
                place++;
                everyPiece();
                landJump(jump);
            }
        }

        private void everyPiece() {
            piece();
            for (int n = 0; n < Tape.MOST && sign() == '&'; n++) {
                int jump = codeSize;
                emit('&', 0);
                place++;
                piece();
                landJump(jump);
            }
        }

        // The guard on the depth is enter(): it refuses what would be a seventh level.
        private void piece() {
            int sign = sign();
            if (sign != '!' && sign != '(') {
                sum();
                int middle = sign();
                if (middle != '<' && middle != '>' && middle != '=') {
                    blame(STRANGE, place);
                    return;
                }
                place++;
                sum();
                emit(middle, 0);
            } else if (enter()) {
                if (sign == '(') {
                    anyPart();
                    exit(')');
                } else {
                    piece();
                    open--;
                    emit('!', 0);
                }
            }
        }

        private void sum() {
            product();
            for (int n = 0; n < Tape.MOST && (sign() == '+' || sign() == '-'); n++) {
                int middle = sign();
                place++;
                product();
                emit(middle, 0);
            }
        }

        private void product() {
            factor();
            for (int n = 0; n < Tape.MOST && (sign() == '*' || sign() == '/' || sign() == '%'); n++) {
                int middle = sign();
                place++;
                factor();
                emit(middle, 0);
            }
        }

        private void factor() {
            int sign = sign();
            int fact = indexOf(FACTS, sign);
            if (isDigit(sign)) {
                emit(LITERAL, readDigits());
            } else if (fact != NONE) {
                place++;
                emit(FACT, fact);
                asksFound = asksFound || fact == Laws.FOUND_FACT;
            } else if (sign != '[') {
                blame(STRANGE, place);
            } else if (enter()) {
                sum();
                exit(']');
            }
        }

        // Each sign of a TEXT gives one piece of code at most, so that a LAW's code has room in its 200.
        private void emit(int sign, int value) {
            if (codeSize >= 0 && codeSize < code.length) {
                code[codeSize] = value << 8 | sign;
                codeSize++;
            }
        }

        // A jump goes to what comes next; if that is a jump of the same kind, it goes on from there.
        private void landJump(int jump) {
            if (jump >= 0 && jump < code.length) {
                code[jump] = codeSize - jump - 1 << 8 | code[jump];
            }
        }

        /** Runs the code of a condition; what has none holds, what divides by 0 does not. */
        boolean isMet(int from, int to, int[] facts) {
            height = 0;
            for (int at = Math.max(from, 0); at < to && at < code.length; at++) {
                int sign = code[at] & 255;
                int value = code[at] >> 8;
                if (sign == LITERAL) {
                    push(value);
                } else if (sign == FACT) {
                    push(isBelow(value, facts.length) ? facts[value] : 0);
                } else if (sign == '&' || sign == '|') {
                    int top = pop();
                    if ((top != 0) == (sign == '|')) {
                        push(top);
                        // Forward only, as each jump is: so the loop ends.
                        at += Math.max(value, 0);
                    }
                } else if (sign == '!') {
                    push(1 - pop());
                } else {
                    int right = pop();
                    if (right == 0 && (sign == '/' || sign == '%')) {
                        return false;
                    }
                    push(reckoned(pop(), sign, right));
                }
            }
            return from == to || pop() != 0;
        }

        private void push(int value) {
            if (height >= 0 && height < stack.length) {
                stack[height] = value;
                height++;
            }
        }

        private int pop() {
            if (height < 1 || height > stack.length) {
                return 0;
            }
            height--;
            return stack[height];
        }

        private static int reckoned(int left, int sign, int right) {
            switch (sign) {
                case '+': return left + right;
                case '-': return left - right;
                case '*': return left * right;
                case '/': return right == 0 ? 0 : left / right;
                case '%': return right == 0 ? 0 : left % right;
                case '<': return left < right ? 1 : 0;
                case '>': return left > right ? 1 : 0;
                default: return left == right ? 1 : 0;
            }
        }
    }

    /** LAWS by LANDS and DAYS, and what their CLAUSES say for a WORK. */
    private static final class Laws {
        static final int MOST = 20;
        static final int CLAUSES = 12;
        // The kinds of CLAUSES, and the places of results; those up to LASTS have THE NUMBER.
        static final int OLDEST = 0;
        static final int WAIT = 1;
        static final int LIFE_YEARS = 2;
        static final int OUT_YEARS = 3;
        static final int FEE = 4;
        static final int RATE = 5;
        static final int LASTS = 6;
        static final int WANTS = 7;
        static final int LETS = 8;
        static final int STRIKES = 9;
        static final int FOUND_FACT = 5;

        private final Works works;
        private final Holdings holdings;
        private final Reader reader;
        private final int[] land = new int[MOST];
        private final int[] from = new int[MOST];
        private final int[] to = new int[MOST];
        private final int[] clauses = new int[MOST];
        private final int[] struck = new int[MOST];
        private final int[] kind = new int[MOST * CLAUSES];
        private final int[] firstNumber = new int[MOST * CLAUSES];
        private final int[] secondNumber = new int[MOST * CLAUSES];
        private final int[] codeFrom = new int[MOST * CLAUSES];
        private final int[] codeTo = new int[MOST * CLAUSES];
        private final int[] facts = new int[8];
        private final int[] results = new int[STRIKES];
        private int settled;
        private boolean asksFound;
        private int size;

        Laws(Tape tape, Works works, Holdings holdings) {
            this.works = works;
            this.holdings = holdings;
            reader = new Reader(tape);
        }

        int size() {
            return size;
        }

        boolean isFull() {
            return size >= MOST;
        }

        int clausesOf(int law) {
            return law >= 0 && law < size ? clauses[law] : NONE;
        }

        /** Makes a LAW of the first n bytes of the tape: its number, or the FAULT. */
        int add(int ofLand, int first, int last, int n) {
            if (isFull()) {
                return NONE;
            }
            reader.begin(size, n);
            int read = 0;
            boolean more = true;
            while (more && read <= CLAUSES) {
                int codeStart = reader.codeSize();
                reader.readClause(read);
                keepClause(read, codeStart);
                read++;
                more = reader.goesOn();
            }
            if (reader.fault() != 0) {
                return reader.fault();
            }
            land[size] = ofLand;
            from[size] = first;
            to[size] = last;
            clauses[size] = read;
            asksFound = asksFound || reader.asksFound();
            size++;
            return size - 1;
        }

        // What is kept of a TEXT with a FAULT is written over by the next LAW.
        private void keepClause(int number, int codeStart) {
            if (isFull() || number >= CLAUSES) {
                return;
            }
            int at = size * CLAUSES + number;
            kind[at] = reader.kind();
            firstNumber[at] = reader.firstNumber();
            secondNumber[at] = reader.secondNumber();
            codeFrom[at] = codeStart;
            codeTo[at] = reader.codeSize();
        }

        /** Weighs what LAWS of a LAND say for a WORK on a DAY, as KNOWN; result() tells it then. */
        void weigh(int w, int inLand, int day, int known) {
            learn(w, day, known);
            forget();
            for (int law = size - 1; law >= 0; law--) {
                if (isInForce(law, inLand, day)) {
                    weighLaw(law, inLand, day);
                }
            }
        }

        /** THE NUMBER of a kind of CLAUSE, or the bits of WANTS or LETS, as last weighed. */
        int result(int which) {
            return which >= 0 && which < results.length ? results[which] : NONE;
        }

        private void learn(int w, int day, int known) {
            facts[0] = works.kindOf(w);
            facts[1] = works.landOf(w);
            facts[2] = works.outDay(w, false) / YEAR_DAYS;
            facts[3] = works.outDay(w, true) / YEAR_DAYS;
            facts[4] = works.sharesOf(w);
            // All LOOKS and LETTERS are gone through for this one.
            facts[FOUND_FACT] = asksFound ? holdings.foundShares(w, day, known) : 0;
            facts[6] = works.outerOf(w) == NONE ? 0 : 1;
            facts[7] = day;
        }

        private void forget() {
            Arrays.fill(struck, 0);
            Arrays.fill(results, 0);
            results[LIFE_YEARS] = NONE;
            results[OUT_YEARS] = NONE;
            results[LASTS] = NONE;
            settled = 0;
        }

        private boolean isInForce(int law, int inLand, int day) {
            return law >= 0 && law < size && land[law] == inLand && from[law] <= day && day <= to[law];
        }

        // From the last CLAUSE on, as the last one gives THE NUMBER. What strikes, strikes only lower LAWS, so
        // that all of this LAW is struck or not before it is weighed.
        private void weighLaw(int law, int inLand, int day) {
            for (int j = clauses[law] - 1; j >= 0; j--) {
                int at = law * CLAUSES + j;
                int aim = firstNumber[at];
                if ((struck[law] >> j & 1) != 0) {
                    continue;
                }
                if (kind[at] != STRIKES) {
                    weighClause(at);
                } else if (aim < law && isInForce(aim, inLand, day)) {
                    struck[aim] |= 1 << secondNumber[at];
                }
            }
        }

        private void weighClause(int at) {
            int which = kind[at];
            if (!isBelow(which, results.length) || (settled >> which & 1) != 0
                    || !reader.isMet(codeFrom[at], codeTo[at], facts)) {
                return;
            }
            if (which == WANTS || which == LETS) {
                results[which] |= 1 << firstNumber[at];
            } else {
                results[which] = firstNumber[at];
                settled |= 1 << which;
            }
        }
    }

    /** What LAWS say of a WORK on a DAY, as KNOWN: THE TERM, whether it is FREE, whether a search is ENOUGH. */
    private static final class Rulings {
        static final int SURELY_NOT = 0;
        static final int SURELY = 1;
        static final int MAYBE = 2;
        private static final int LIVING = -2;

        private final Owners owners;
        private final Works works;
        private final Traces traces;
        private final Holdings holdings;
        private final Laws laws;
        private int lackingWork;
        private int lackingSource;
        private int lackingOwner;

        Rulings(Owners owners, Works works, Traces traces, Holdings holdings, Laws laws) {
            this.owners = owners;
            this.works = works;
            this.traces = traces;
            this.holdings = holdings;
            this.laws = laws;
        }

        int termOf(int w, int land, int day, int known, boolean latest) {
            laws.weigh(w, land, day, known);
            return weighedTerm(w, day, known, latest);
        }

        private int weighedTerm(int w, int day, int known, boolean latest) {
            int byDeaths = termByDeaths(w, day, known, latest);
            if (byDeaths == LIVING) {
                return NONE;
            }
            int years = laws.result(Laws.OUT_YEARS);
            int byDays = years == NONE ? NONE : works.outDay(w, latest) + years * YEAR_DAYS;
            // NONE is below every DAY.
            return Math.max(byDeaths, byDays);
        }

        private int termByDeaths(int w, int day, int known, boolean latest) {
            int years = laws.result(Laws.LIFE_YEARS);
            if (years == NONE) {
                return NONE;
            }
            int last = NONE;
            for (int i = 0; i < works.sharesOf(w); i++) {
                int holder = holdings.holderOf(w, i, day, known);
                if (!owners.isPerson(holder)) {
                    continue;
                }
                int death = owners.deathOf(holder, known);
                if (death == NONE) {
                    return LIVING;
                }
                last = Math.max(last, owners.deathDay(death, latest));
            }
            return last == NONE ? NONE : last + years * YEAR_DAYS;
        }

        /** Whether a WORK is FREE; LAWS stay weighed for that case. */
        int freedom(int w, int land, int day, int known) {
            laws.weigh(w, land, day, known);
            int latest = weighedTerm(w, day, known, true);
            if (latest == NONE) {
                return SURELY_NOT;
            }
            if (latest < day) {
                return SURELY;
            }
            return weighedTerm(w, day, known, false) < day ? MAYBE : SURELY_NOT;
        }

        /** Whether a search is not ENOUGH; lack() tells then what lacks first. */
        boolean lacks(int w, int land, int day, int known) {
            lackingWork = w;
            for (int level = 0; level < Works.DEEPEST && works.has(lackingWork); level++) {
                laws.weigh(lackingWork, land, day, known);
                lackingSource = firstBit(missingSources(lackingWork, day, known));
                lackingOwner = missingOwner(lackingWork, day, known);
                if (lackingSource != NONE || lackingOwner != NONE) {
                    return true;
                }
                lackingWork = works.outerOf(lackingWork);
            }
            return false;
        }

        int lack(int what) {
            boolean isSource = lackingSource != NONE;
            switch (what) {
                case 0: return lackingWork;
                case 1: return isSource ? 0 : 1;
                case 2: return isSource ? lackingSource : lackingOwner;
                default: return NONE;
            }
        }

        /** The SOURCES, as bits, that are still to be looked through for a WORK today. */
        int sourcesToDo(int w, int land, int now) {
            laws.weigh(w, land, now, now);
            return missingSources(w, now, now);
        }

        private int missingSources(int w, int day, int known) {
            int oldest = laws.result(Laws.OLDEST);
            int from = oldest == 0 ? 0 : day - oldest;
            return laws.result(Laws.WANTS) & ~traces.lookedThrough(w, from, day, known);
        }

        // A LETTER that had an answer by then needs no test: its OWNER is FOUND by it, and needs none.
        private int missingOwner(int w, int day, int known) {
            int wait = laws.result(Laws.WAIT);
            for (int i = 0; wait != 0 && i < works.sharesOf(w); i++) {
                int o = works.shareOwner(w, i);
                if (!traces.isFound(o, day, known) && !traces.wasWritten(o, day - wait, known)) {
                    return o;
                }
            }
            return NONE;
        }

        private static int firstBit(int bits) {
            for (int s = 0; s < Orders.SOURCES; s++) {
                if ((bits >> s & 1) != 0) {
                    return s;
                }
            }
            return NONE;
        }
    }

    /** SOURCES with COSTS and chances, and THE ORDER in which it is cheapest to look through them. */
    private static final class Orders {
        static final int SOURCES = 12;
        static final int MOST_COST = 10000;
        private static final int MOST = 8;
        private static final int SETS = 1 << MOST;
        // Orders of one set leave different rests only by rounding: the first three SOURCES round nothing, as CERTAIN
        // is 100 to the third, the fourth is the first that does, and each of the next three takes less than one.
        private static final int RESTS = 4;
        private static final int NOT_JUST_THOSE = -2;
        private static final long CERTAIN = 1000000;

        private final Works works;
        private final Rulings rulings;
        private final int[] cost = new int[SOURCES];
        private final int[] chance = new int[SOURCES * KINDS];
        private final int[] wanted = new int[MOST];
        private final int[] row = new int[MOST];
        // By sets of the wanted ones that are used: the rests that were met behind them, and what the others add then.
        private final int[] rests = new int[SETS];
        private final long[] rest = new long[SETS * RESTS];
        private final long[] added = new long[SETS * RESTS];
        private int size;
        private int wantedBits;
        private int kind;
        private long least;

        Orders(Works works, Rulings rulings) {
            this.works = works;
            this.rulings = rulings;
        }

        boolean setCost(int s, int newCost) {
            if (!isSource(s)) {
                return false;
            }
            cost[s] = newCost;
            return true;
        }

        boolean setChance(int s, int ofKind, int hundredths) {
            if (!isSource(s) || !isKind(ofKind)) {
                return false;
            }
            chance[s * KINDS + ofKind] = hundredths;
            return true;
        }

        /** Gathers the SOURCES that are still to be looked through for a WORK, the lowest eight of them. */
        void gather(int w, int land, int now) {
            int missing = rulings.sourcesToDo(w, land, now);
            kind = works.kindOf(w);
            size = 0;
            wantedBits = 0;
            for (int s = 0; s < SOURCES && size < MOST; s++) {
                if ((missing >> s & 1) != 0) {
                    wanted[size] = s;
                    wantedBits |= 1 << s;
                    size++;
                }
            }
        }

        /** EXPECTED of the order on the tape; NOT_JUST_THOSE if it has others than those that were gathered. */
        long expectedOn(Tape tape, int n) {
            int bits = 0;
            for (int i = 0; i < n && i < MOST; i++) {
                int s = tape.at(i);
                if (!isSource(s)) {
                    return NOT_JUST_THOSE;
                }
                row[i] = s;
                bits |= 1 << s;
            }
            return n == size && bits == wantedBits ? expectedOfRow() : NOT_JUST_THOSE;
        }

        private long expectedOfRow() {
            long sum = 0;
            long left = CERTAIN;
            for (int i = 0; i < size; i++) {
                sum += costOf(row[i]) * left;
                left = leftBehind(row[i], left);
            }
            return sum;
        }

        /** Finds THE ORDER of those that were gathered; leastExpected() and cheapestAt() tell it then. */
        void findCheapest() {
            Arrays.fill(rests, 0);
            least = leastAdded(0, CERTAIN);
            int used = 0;
            long left = CERTAIN;
            for (int at = 0; at < size; at++) {
                int next = firstOfLeast(used, left);
                row[at] = wanted[next];
                used |= 1 << next;
                left = leftBehind(row[at], left);
            }
        }

        long leastExpected() {
            return least;
        }

        int cheapestAt(int i) {
            return isBelow(i, size) ? row[i] : NONE;
        }

        private int costOf(int s) {
            return s >= 0 && s < SOURCES ? cost[s] : 0;
        }

        private int chanceOf(int s) {
            return s >= 0 && s < SOURCES && kind >= 0 && kind < KINDS ? chance[s * KINDS + kind] : 0;
        }

        private long leftBehind(int s, long left) {
            return left * (HUNDRED - chanceOf(s)) / HUNDRED;
        }

        // The lowest one: of like orders the least row is wanted.
        private int firstOfLeast(int used, long left) {
            long leastOfAll = leastAdded(used, left);
            for (int next = 0; next < size; next++) {
                if ((used >> next & 1) == 0 && addedWith(next, used, left) == leastOfAll) {
                    return next;
                }
            }
            return 0;
        }

        // Each level uses one more of the eight at most, and none is left on the last.
        private long leastAdded(int used, long left) {
            if (used < 0 || used + 1 >= 1 << size) {
                return 0;
            }
            int known = knownAt(used, left);
            if (known != NONE) {
                return added[known];
            }
            long leastOfAll = NONE;
            for (int next = 0; next < size; next++) {
                if ((used >> next & 1) == 0) {
                    long sum = addedWith(next, used, left);
                    leastOfAll = leastOfAll == NONE ? sum : Math.min(leastOfAll, sum);
                }
            }
            keep(used, left, leastOfAll);
            return leastOfAll;
        }

        private long addedWith(int next, int used, long left) {
            int s = wanted[next];
            return costOf(s) * left + leastAdded(used | 1 << next, leftBehind(s, left));
        }

        private int knownAt(int used, long left) {
            for (int i = 0; i < rests[used]; i++) {
                if (rest[used * RESTS + i] == left) {
                    return used * RESTS + i;
                }
            }
            return NONE;
        }

        private void keep(int used, long left, long sum) {
            if (rests[used] < RESTS) {
                rest[used * RESTS + rests[used]] = left;
                added[used * RESTS + rests[used]] = sum;
                rests[used]++;
            }
        }
    }

    /** LEAVES, and the earnings of their USES. */
    private static final class Leaves {
        static final int MOST = 100;
        private static final int MOST_TELLINGS = 300;
        private static final int FREELY = 1;
        private static final int BY_LAW = 0;
        private static final int NOT_LET = -2;
        private static final int NOT_ENOUGH = -3;
        private static final int NOT_AGREED = -4;

        private final Holdings holdings;
        private final Laws laws;
        private final Rulings rulings;
        private final int[] library = new int[MOST];
        private final int[] work = new int[MOST];
        private final int[] land = new int[MOST];
        private final int[] use = new int[MOST];
        private final int[] day = new int[MOST];
        private final int[] fee = new int[MOST];
        private final int[] end = new int[MOST];
        private final boolean[] free = new boolean[MOST];
        private final long[] earnings = new long[MOST];
        private int size;
        private int tellings;

        Leaves(Holdings holdings, Laws laws, Rulings rulings) {
            this.holdings = holdings;
            this.laws = laws;
            this.rulings = rulings;
        }

        int size() {
            return size;
        }

        int tellings() {
            return tellings;
        }

        boolean isFull() {
            return size >= MOST;
        }

        /** Whether LEAVE is due today for one of some uses (as bits): FREELY, BY_LAW, or below 0 why not. */
        int verdict(int w, int inLand, int uses, int now) {
            if (rulings.freedom(w, inLand, now, now) == Rulings.SURELY) {
                return FREELY;
            }
            if ((laws.result(Laws.LETS) & uses) == 0) {
                return NOT_LET;
            }
            if (rulings.lacks(w, inLand, now, now)) {
                return NOT_ENOUGH;
            }
            return holdings.isUnheeded(w, now, now) ? NOT_AGREED : BY_LAW;
        }

        /** Gives LEAVE by a verdict that is not against it: its number. */
        int give(int toLibrary, int w, int inLand, int forUse, int verdict, int now) {
            if (isFull()) {
                return NONE;
            }
            boolean isFree = verdict == FREELY;
            laws.weigh(w, inLand, now, now);
            int lasts = isFree ? NONE : laws.result(Laws.LASTS);
            library[size] = toLibrary;
            work[size] = w;
            land[size] = inLand;
            use[size] = forUse;
            day[size] = now;
            fee[size] = isFree ? 0 : laws.result(Laws.FEE);
            end[size] = lasts == NONE ? NONE : now + lasts;
            free[size] = isFree;
            earnings[size] = 0;
            size++;
            return size - 1;
        }

        boolean addUses(int k, int onDay, int n, int pence) {
            if (!isBelow(k, size) || onDay < day[k] || !lastsOn(k, onDay) || tellings >= MOST_TELLINGS) {
                return false;
            }
            earnings[k] += (long) n * pence;
            tellings++;
            return true;
        }

        private boolean lastsOn(int k, int onDay) {
            return end[k] == NONE || onDay < end[k];
        }

        /** Ends today what one who comes HOLDS a SHARE of: how many LEAVES; what has ended by now stays as it is. */
        int endFor(int o, int now) {
            int ended = 0;
            for (int k = 0; k < size; k++) {
                if (!free[k] && lastsOn(k, now) && holdings.hundredthsOf(o, work[k], now) > 0) {
                    end[k] = now;
                    ended++;
                }
            }
            return ended;
        }

        long payment(int o, int k, int now) {
            if (!isBelow(k, size) || free[k]) {
                return NONE;
            }
            laws.weigh(work[k], land[k], day[k], day[k]);
            int part = holdings.hundredthsOf(o, work[k], now);
            return earnings[k] * laws.result(Laws.RATE) * part / (HUNDRED * HUNDRED);
        }

        boolean isFree(int k) {
            return isBelow(k, size) && free[k];
        }

        boolean isWrong(int k, int now) {
            return isBelow(k, size) && holdings.isUnheeded(work[k], day[k], now);
        }

        int detail(int k, int what) {
            if (!isBelow(k, size)) {
                return NONE;
            }
            switch (what) {
                case 0: return library[k];
                case 1: return work[k];
                case 2: return land[k];
                case 3: return use[k];
                case 4: return day[k];
                case 5: return fee[k];
                case 6: return end[k];
                case 7: return asNumber(free[k]);
                default: return NONE;
            }
        }
    }

    /** AUDITS of the LEAVES that are not FREE. */
    private static final class Audits {
        static final int MODULUS = 65536;
        private static final int MOST_TIMES = 400;

        private final Leaves leaves;
        private final int[] all = new int[Leaves.MOST];
        private final int[] drawn = new int[Leaves.MOST];
        private final boolean[] isDrawn = new boolean[Leaves.MOST];
        private int allSize;
        private int drawnSize;

        Audits(Leaves leaves) {
            this.leaves = leaves;
        }

        /** Draws LEAVES; false if there are none. */
        boolean draw(int n, int seed) {
            gather();
            drawnSize = 0;
            if (allSize == 0) {
                return false;
            }
            int x = seed;
            for (int times = 0; times < MOST_TIMES && drawnSize < n && drawnSize < Leaves.MOST; times++) {
                x = (x * 25173 + 13849) % MODULUS;
                int i = x % allSize;
                if (isBelow(i, allSize) && !isDrawn[i]) {
                    isDrawn[i] = true;
                    drawn[drawnSize] = all[i];
                    drawnSize++;
                }
            }
            return true;
        }

        private void gather() {
            allSize = 0;
            for (int k = 0; k < leaves.size() && k < Leaves.MOST; k++) {
                if (!leaves.isFree(k)) {
                    all[allSize] = k;
                    isDrawn[allSize] = false;
                    allSize++;
                }
            }
        }

        int result(int what, int now) {
            if (what >= 10) {
                return isBelow(what - 10, drawnSize) ? drawn[what - 10] : NONE;
            }
            switch (what) {
                case 0: return drawnSize;
                case 1:
                case 2: return wrongOnes(now);
                case 3: return allSize - drawnSize + wrongOnes(now);
                case 4: return allSize;
                default: return NONE;
            }
        }

        private int wrongOnes(int now) {
            int sum = 0;
            for (int i = 0; i < drawnSize; i++) {
                if (leaves.isWrong(drawn[i], now)) {
                    sum++;
                }
            }
            return sum;
        }
    }
}
