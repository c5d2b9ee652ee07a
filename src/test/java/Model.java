import java.util.ArrayList;
import java.util.Arrays;
import java.util.HashSet;
import java.util.List;
import java.util.Set;

/**
 * The document once more, as slow and as plain as it can be written with the whole library, and by other ways than
 * the class: the two are compared call by call.
 */
final class Model {
    record Owner(boolean firm) { }
    record Death(int owner, int from, int to, int told) { }
    record Part(int a, int b, int day, int told) { }
    record Work(int kind, int land, int from, int to, int marks, int in, List<int[]> shares) { }
    record Law(int land, int from, int to, List<ModelText.Clause> clauses) { }
    record Look(int work, int source, int day, int owner, int told) { }
    record Letter(int owner, int day, int told, int[] answered) { }
    record Agreement(int owner, int work, int day) { }
    record Leave(int library, int work, int land, int use, int day, int fee, int[] end, boolean free) { }
    record Use(int leave, int day, int n, int pence) { }

    private int now;
    private final List<Owner> owners = new ArrayList<>();
    private final List<Death> deaths = new ArrayList<>();
    private final List<Part> parts = new ArrayList<>();
    private final List<Work> works = new ArrayList<>();
    private final List<Law> laws = new ArrayList<>();
    private final List<Integer> tape = new ArrayList<>();
    private final int[] cost = new int[12];
    private final int[][] chance = new int[12][8];
    private final List<Look> looks = new ArrayList<>();
    private final List<Letter> letters = new ArrayList<>();
    private final List<int[]> comings = new ArrayList<>();
    private final List<Agreement> agreements = new ArrayList<>();
    private final List<Leave> leaves = new ArrayList<>();
    private final List<Use> uses = new ArrayList<>();
    private final List<Set<Integer>> lists = List.of(new HashSet<>(), new HashSet<>(), new HashSet<>(),
            new HashSet<>());

    private static boolean in(int value, int low, int high) {
        return low <= value && value <= high;
    }

    private static boolean day(int d) {
        return in(d, 0, 99999);
    }

    private boolean w(int w) {
        return in(w, 0, works.size() - 1);
    }

    private boolean o(int o) {
        return in(o, 0, owners.size() - 1);
    }

    private static boolean land(int l) {
        return in(l, 0, 3);
    }

    boolean now(int day) {
        if (!day(day) || day < now) {
            return false;
        }
        now = day;
        return true;
    }

    int owner(boolean firm, int land) {
        if (!land(land) || owners.size() == 40) {
            return -1;
        }
        owners.add(new Owner(firm));
        return owners.size() - 1;
    }

    boolean died(int o, int from, int to) {
        if (!o(o) || owners.get(o).firm || !day(from) || !day(to) || to < from || to > now || deaths.size() == 200) {
            return false;
        }
        deaths.add(new Death(o, from, to, now));
        return true;
    }

    private boolean reaches(int from, int to) {
        return from == to || parts.stream().anyMatch(p -> p.a == from && reaches(p.b, to));
    }

    boolean merge(int a, int b, int day) {
        if (!o(a) || !o(b) || !owners.get(a).firm || !owners.get(b).firm || !day(day)
                || parts.stream().anyMatch(p -> p.a == a) || reaches(b, a)) {
            return false;
        }
        parts.add(new Part(a, b, day, now));
        return true;
    }

    private int levels(int w) {
        return w == -1 ? 0 : 1 + levels(works.get(w).in);
    }

    int work(int kind, int land, int from, int to, int marks, int in) {
        if (!in(kind, 0, 7) || !land(land) || !day(from) || !day(to) || to < from || !in(marks, 0, 255)
                || in != -1 && !w(in) || levels(in) == 8 || works.size() == 80) {
            return -1;
        }
        works.add(new Work(kind, land, from, to, marks, in, new ArrayList<>()));
        return works.size() - 1;
    }

    boolean share(int w, int o, int hundredths) {
        if (!w(w) || !o(o) || !in(hundredths, 1, 100)) {
            return false;
        }
        List<int[]> shares = works.get(w).shares;
        int sum = shares.stream().mapToInt(s -> s[1]).sum();
        if (sum + hundredths > 100 || shares.size() == 4 || shares.stream().anyMatch(s -> s[0] == o)) {
            return false;
        }
        shares.add(new int[] {o, hundredths});
        return true;
    }

    private int holder(int o, int day, int t) {
        for (Part p : parts) {
            if (p.a == o && p.day <= day && p.told <= t) {
                return holder(p.b, day, t);
            }
        }
        return o;
    }

    int holds(int w, int i, int day, int t) {
        if (!w(w) || !day(day) || !day(t) || !in(i, 0, works.get(w).shares.size() - 1)) {
            return -1;
        }
        return holder(works.get(w).shares.get(i)[0], day, t);
    }

    int feed(int... ints) {
        if (tape.size() + 20 > 200) {
            return -1;
        }
        for (int i : ints) {
            tape.addAll(List.of(i >>> 24, i >>> 16 & 255, i >>> 8 & 255, i & 255));
        }
        return tape.size();
    }

    private String take(int n) {
        StringBuilder text = new StringBuilder();
        tape.subList(0, n).forEach(b -> text.append((char) (int) b));
        tape.clear();
        return text.toString();
    }

    int law(int land, int from, int to, int n) {
        if (!land(land) || !day(from) || !day(to) || to < from || laws.size() == 20 || !in(n, 1, tape.size())) {
            return -1;
        }
        String text = take(n);
        int fault = ModelText.fault(text);
        if (fault != 0) {
            return fault;
        }
        laws.add(new Law(land, from, to, ModelText.clauses(text)));
        return laws.size() - 1;
    }

    private boolean holds(ModelText.Clause clause, int w, int d, int t) {
        Work work = works.get(w);
        return clause.holds(letter -> switch (letter) {
            case 'k' -> work.kind;
            case 'l' -> work.land;
            case 'y' -> work.from / 365;
            case 'z' -> work.to / 365;
            case 'o' -> work.shares.size();
            case 'f' -> (int) work.shares.stream().filter(s -> isFound(holder(s[0], d, t), d, t)).count();
            case 'j' -> work.in == -1 ? 0 : 1;
            default -> d;
        });
    }

    /** All CLAUSES of a letter that count and hold, the one that gives THE NUMBER first. */
    private List<Integer> says(char letter, int w, int land, int d, int t) {
        Set<List<Integer>> struck = new HashSet<>();
        List<Integer> numbers = new ArrayList<>();
        for (int i = laws.size() - 1; i >= 0; i--) {
            Law law = laws.get(i);
            if (law.land != land || !in(d, law.from, law.to)) {
                continue;
            }
            for (int j = law.clauses.size() - 1; j >= 0; j--) {
                ModelText.Clause clause = law.clauses.get(j);
                if (struck.contains(List.of(i, j))) {
                    continue;
                }
                if (clause.letter() == 'x' && clause.n() < i) {
                    struck.add(List.of(clause.n(), clause.j()));
                }
                if (clause.letter() == letter && holds(clause, w, d, t)) {
                    numbers.add(clause.n());
                }
            }
        }
        return numbers;
    }

    private int theNumber(char letter, int w, int land, int d, int t) {
        List<Integer> numbers = says(letter, w, land, d, t);
        int without = letter == 't' || letter == 'u' || letter == 'e' ? -1 : 0;
        return numbers.isEmpty() ? without : numbers.get(0);
    }

    private int bits(char letter, int w, int land, int d, int t) {
        return says(letter, w, land, d, t).stream().reduce(0, (bits, n) -> bits | 1 << n);
    }

    private boolean four(int w, int land, int day, int t) {
        return w(w) && land(land) && day(day) && day(t);
    }

    int number(int w, int land, int day, int t, int what) {
        if (!four(w, land, day, t) || !in(what, 0, 8)) {
            return -1;
        }
        return what < 7 ? theNumber("altufwe".charAt(what), w, land, day, t)
                : bits("sp".charAt(what - 7), w, land, day, t);
    }

    int term(int w, int land, int day, int t, int what) {
        if (!four(w, land, day, t) || !in(what, 0, 1)) {
            return -1;
        }
        int result = -1;
        int years = theNumber('t', w, land, day, t);
        if (years != -1) {
            for (int[] share : works.get(w).shares) {
                int who = holder(share[0], day, t);
                if (owners.get(who).firm) {
                    continue;
                }
                Death latest = null;
                for (Death death : deaths) {
                    if (death.owner == who && death.told <= t) {
                        latest = death;
                    }
                }
                if (latest == null) {
                    return -1;
                }
                result = Math.max(result, (what == 0 ? latest.from : latest.to) + years * 365);
            }
        }
        int out = theNumber('u', w, land, day, t);
        if (out != -1) {
            result = Math.max(result, (what == 0 ? works.get(w).from : works.get(w).to) + out * 365);
        }
        return result;
    }

    int free(int w, int land, int day, int t) {
        if (!four(w, land, day, t)) {
            return -1;
        }
        int earliest = term(w, land, day, t, 0);
        int latest = term(w, land, day, t, 1);
        if (earliest == -1 || earliest >= day) {
            return 0;
        }
        return latest < day ? 1 : 2;
    }

    boolean source(int s, int c) {
        if (!in(s, 0, 11) || !in(c, 0, 10000)) {
            return false;
        }
        cost[s] = c;
        return true;
    }

    boolean chance(int s, int kind, int hundredths) {
        if (!in(s, 0, 11) || !in(kind, 0, 7) || !in(hundredths, 0, 100)) {
            return false;
        }
        chance[s][kind] = hundredths;
        return true;
    }

    int look(int w, int s, int day, int o) {
        if (!w(w) || !in(s, 0, 11) || !in(day, 0, now) || looks.size() == 300
                || o != -1 && works.get(w).shares.stream().noneMatch(x -> x[0] == o)) {
            return -1;
        }
        looks.add(new Look(w, s, day, o, now));
        return looks.size() - 1;
    }

    int letter(int o, int day) {
        if (!o(o) || !in(day, 0, now) || letters.size() == 200) {
            return -1;
        }
        letters.add(new Letter(o, day, now, new int[] {Integer.MAX_VALUE}));
        return letters.size() - 1;
    }

    boolean answer(int k) {
        if (!in(k, 0, letters.size() - 1) || letters.get(k).answered[0] != Integer.MAX_VALUE) {
            return false;
        }
        letters.get(k).answered[0] = now;
        return true;
    }

    private boolean isFound(int o, int d, int t) {
        return looks.stream().anyMatch(l -> l.owner == o && l.day <= d && l.told <= t)
                || letters.stream().anyMatch(l -> l.owner == o && l.answered[0] <= d && l.answered[0] <= t)
                || comings.stream().anyMatch(c -> c[0] == o && c[1] <= d && c[1] <= t);
    }

    int found(int o, int day, int t) {
        return !o(o) || !day(day) || !day(t) ? -1 : isFound(o, day, t) ? 1 : 0;
    }

    private boolean lookedThrough(int w, int s, int land, int d, int t) {
        int age = theNumber('a', w, land, d, t);
        int latest = looks.stream().filter(l -> l.work == w && l.source == s && l.day <= d && l.told <= t)
                .mapToInt(Look::day).max().orElse(-1);
        return latest != -1 && (age == 0 || d - latest <= age);
    }

    private int[] lack(int w, int land, int d, int t) {
        for (int v = w; v != -1; v = works.get(v).in) {
            int wanted = bits('s', v, land, d, t);
            for (int s = 0; s < 12; s++) {
                if ((wanted & 1 << s) != 0 && !lookedThrough(v, s, land, d, t)) {
                    return new int[] {v, 0, s};
                }
            }
            int wait = theNumber('l', v, land, d, t);
            for (int[] share : works.get(v).shares) {
                boolean written = letters.stream().anyMatch(l -> l.owner == share[0] && l.told <= t
                        && d - l.day >= wait && !(l.answered[0] <= d && l.answered[0] <= t));
                if (wait != 0 && !written && !isFound(share[0], d, t)) {
                    return new int[] {v, 1, share[0]};
                }
            }
        }
        return null;
    }

    int enough(int w, int land, int day, int t) {
        return !four(w, land, day, t) ? -1 : lack(w, land, day, t) == null ? 1 : 0;
    }

    int why(int w, int land, int day, int t, int what) {
        if (!four(w, land, day, t) || !in(what, 0, 2)) {
            return -1;
        }
        int[] lack = lack(w, land, day, t);
        return lack == null ? -1 : lack[what];
    }

    int nobody(int w, int day, int t) {
        if (!w(w) || !day(day) || !day(t)) {
            return -1;
        }
        return works.get(w).shares.stream().noneMatch(s -> isFound(holder(s[0], day, t), day, t)) ? 1 : 0;
    }

    private boolean agreed(int o, int w, int by) {
        return agreements.stream().anyMatch(a -> a.owner == o && a.work == w && a.day <= by);
    }

    boolean agree(int o, int w) {
        if (!o(o) || !w(w) || agreed(o, w, now) || agreements.size() == 200) {
            return false;
        }
        agreements.add(new Agreement(o, w, now));
        return true;
    }

    private boolean passedOver(int w, int d, int t) {
        return works.get(w).shares.stream().map(s -> holder(s[0], d, t))
                .anyMatch(h -> isFound(h, d, t) && !agreed(h, w, d));
    }

    private int refusal(int w, int land, int use) {
        if ((bits('p', w, land, now, now) & 1 << use) == 0) {
            return -2;
        }
        if (lack(w, land, now, now) != null) {
            return -3;
        }
        return passedOver(w, now, now) ? -4 : 0;
    }

    int ask(int library, int w, int land, int use) {
        if (!in(library, 0, 9) || !w(w) || !land(land) || !in(use, 0, 3) || leaves.size() == 100) {
            return -1;
        }
        boolean free = free(w, land, now, now) == 1;
        if (!free && refusal(w, land, use) != 0) {
            return refusal(w, land, use);
        }
        int e = theNumber('e', w, land, now, now);
        int end = free || e == -1 ? -1 : now + e;
        int fee = free ? 0 : theNumber('f', w, land, now, now);
        leaves.add(new Leave(library, w, land, use, now, fee, new int[] {end}, free));
        return leaves.size() - 1;
    }

    boolean uses(int k, int day, int n, int pence) {
        if (!in(k, 0, leaves.size() - 1) || !in(day, 0, now) || !in(n, 1, 100000) || !in(pence, 0, 100000)
                || uses.size() == 300) {
            return false;
        }
        Leave leave = leaves.get(k);
        if (day < leave.day || leave.end[0] != -1 && day >= leave.end[0]) {
            return false;
        }
        uses.add(new Use(k, day, n, pence));
        return true;
    }

    private int held(int o, int w) {
        return works.get(w).shares.stream().filter(s -> holder(s[0], now, now) == o).mapToInt(s -> s[1]).sum();
    }

    int comes(int o) {
        if (!o(o) || comings.stream().anyMatch(c -> c[0] == o)) {
            return -1;
        }
        comings.add(new int[] {o, now});
        int ended = 0;
        for (Leave leave : leaves) {
            if (!leave.free && held(o, leave.work) > 0 && (leave.end[0] == -1 || leave.end[0] > now)) {
                leave.end[0] = now;
                ended++;
            }
        }
        return ended;
    }

    long paid(int o, int k) {
        if (!o(o) || !in(k, 0, leaves.size() - 1) || leaves.get(k).free || comings.stream().noneMatch(c -> c[0] == o)) {
            return -1;
        }
        Leave leave = leaves.get(k);
        long earned = uses.stream().filter(u -> u.leave == k).mapToLong(u -> (long) u.n * u.pence).sum();
        return earned * theNumber('w', leave.work, leave.land, leave.day, leave.day) * held(o, leave.work) / 10000;
    }

    private List<Integer> toDo(int w, int land) {
        List<Integer> sources = new ArrayList<>();
        for (int s = 0; s < 12 && sources.size() < 8; s++) {
            if ((bits('s', w, land, now, now) & 1 << s) != 0 && !lookedThrough(w, s, land, now, now)) {
                sources.add(s);
            }
        }
        return sources;
    }

    private long expected(List<Integer> order, int kind) {
        long sum = 0;
        long r = 1000000;
        for (int s : order) {
            sum += cost[s] * r;
            r = r * (100 - chance[s][kind]) / 100;
        }
        return sum;
    }

    /** Goes through all orders, from the least row on. */
    private void orders(List<Integer> begun, List<Integer> rest, int kind, List<Integer> best) {
        if (rest.isEmpty() && (best.isEmpty() || expected(begun, kind) < expected(best, kind))) {
            best.clear();
            best.addAll(begun);
        }
        for (int s : rest) {
            List<Integer> longer = new ArrayList<>(begun);
            longer.add(s);
            List<Integer> fewer = new ArrayList<>(rest);
            fewer.remove(Integer.valueOf(s));
            orders(longer, fewer, kind, best);
        }
    }

    long cheapest(int w, int land, int what) {
        if (!w(w) || !land(land)) {
            return -1;
        }
        List<Integer> best = new ArrayList<>();
        orders(List.of(), toDo(w, land), works.get(w).kind, best);
        if (what == -1) {
            return expected(best, works.get(w).kind);
        }
        return in(what, 0, best.size() - 1) ? best.get(what) : -1;
    }

    long judge(int w, int land, int n) {
        if (!w(w) || !land(land) || !in(n, 0, tape.size())) {
            return -1;
        }
        List<Integer> order = new ArrayList<>(tape.subList(0, n));
        tape.clear();
        List<Integer> sorted = new ArrayList<>(order);
        sorted.sort(null);
        return sorted.equals(toDo(w, land)) ? expected(order, works.get(w).kind) : -2;
    }

    int like(int a, int b, int bits) {
        if (!w(a) || !w(b) || a == b || !in(bits, 0, 8)) {
            return -1;
        }
        Work one = works.get(a);
        Work two = works.get(b);
        int differ = 0;
        for (int bit = 1; bit < 256; bit *= 2) {
            differ += (one.marks & bit) != (two.marks & bit) ? 1 : 0;
        }
        boolean meet = Math.max(one.from, two.from) <= Math.min(one.to, two.to);
        return one.kind == two.kind && differ <= bits && meet ? 1 : 0;
    }

    boolean list(int w, int land) {
        return w(w) && land(land) && lists.get(land).add(w);
    }

    int joined(int a, int b, int bits, int i, int what) {
        if (!land(a) || !land(b) || a == b || !in(bits, 0, 8) || !in(what, 0, 1)) {
            return -1;
        }
        List<int[]> pairs = new ArrayList<>();
        for (int one : lists.get(a).stream().sorted().toList()) {
            for (int two : lists.get(b).stream().sorted().toList()) {
                if (one != two && like(one, two, bits) == 1 && pairs.stream().noneMatch(p -> p[1] == two)) {
                    pairs.add(new int[] {one, two});
                    break;
                }
            }
        }
        return in(i, 0, pairs.size() - 1) ? pairs.get(i)[what] : -1;
    }

    int audit(int n, int seed, int what) {
        List<Integer> all = new ArrayList<>();
        for (int k = 0; k < leaves.size(); k++) {
            if (!leaves.get(k).free) {
                all.add(k);
            }
        }
        if (!in(n, 1, 100) || !in(seed, 0, 65535) || all.isEmpty()) {
            return -1;
        }
        List<Integer> drawn = new ArrayList<>();
        long x = seed;
        for (int times = 1; times <= 400 && drawn.size() < n; times++) {
            x = (x * 25173 + 13849) % 65536;
            int k = all.get((int) (x % all.size()));
            if (!drawn.contains(k)) {
                drawn.add(k);
            }
        }
        int wrong = (int) drawn.stream().map(leaves::get).filter(l -> passedOver(l.work, l.day, now)).count();
        int[] answers = {drawn.size(), wrong, wrong, all.size() - drawn.size() + wrong, all.size()};
        if (in(what, 0, 4)) {
            return answers[what];
        }
        return what >= 10 && what - 10 < drawn.size() ? drawn.get(what - 10) : -1;
    }

    int shown(int land) {
        if (!land(land)) {
            return -1;
        }
        int sum = 0;
        for (int w = 0; w < works.size(); w++) {
            boolean some = free(w, land, now, now) == 1;
            for (int use = 0; use < 4; use++) {
                some = some || refusal(w, land, use) == 0;
            }
            sum += some ? 1 : 0;
        }
        return sum;
    }

    int leave(int k, int what) {
        if (!in(k, 0, leaves.size() - 1) || !in(what, 0, 7)) {
            return -1;
        }
        Leave l = leaves.get(k);
        return new int[] {l.library, l.work, l.land, l.use, l.day, l.fee, l.end[0], l.free ? 1 : 0}[what];
    }

    int count(int what) {
        int[] sizes = {now, owners.size(), works.size(), laws.size(), looks.size(), letters.size(), leaves.size(),
            uses.size(), tape.size()};
        if (in(what, 0, 8)) {
            return sizes[what];
        }
        if (in(what, 10, 13)) {
            return lists.get(what - 10).size();
        }
        if (in(what, 20, 20 + laws.size() - 1)) {
            return laws.get(what - 20).clauses.size();
        }
        return in(what, 40, 40 + works.size() - 1) ? works.get(what - 40).shares.size() : -1;
    }

    @Override
    public String toString() {
        return Arrays.toString(new int[] {now, owners.size(), works.size(), laws.size(), leaves.size()});
    }
}
