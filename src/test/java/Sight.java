import java.util.ArrayList;
import java.util.List;
import java.util.function.Supplier;

/**
 * All that can be seen of a shelf through its face: what it answers to questions, and what to a run of tellings.
 * Shelves are made anew for every hundred calls, as a shelf is used for 512 calls.
 */
final class Sight {
    private static final int NONE = OrphanShelf.NONE;
    private static final int AT_ONCE = 100;

    record Probe(String name, Checks.Asking asking) { }

    private final List<Probe> probes = new ArrayList<>();
    private final int now;
    private final int owners;
    private final int works;
    private final int letters;
    private final int leaves;
    private final int bytes;

    private Sight(OrphanShelf x) {
        now = x.count(0);
        owners = x.count(1);
        works = x.count(2);
        letters = x.count(5);
        leaves = x.count(6);
        bytes = x.count(8);
    }

    /** What one shelf answers otherwise than another one; empty if there is nothing such. */
    static String difference(Supplier<OrphanShelf> one, Supplier<OrphanShelf> other) {
        Sight questions = new Sight(other.get());
        questions.askAll();
        for (int from = 0; from < questions.probes.size(); from += AT_ONCE) {
            int to = Math.min(from + AT_ONCE, questions.probes.size());
            String difference = compare(questions.probes.subList(from, to), one.get(), other.get());
            if (!difference.isEmpty()) {
                return difference;
            }
        }
        Sight tellings = new Sight(other.get());
        tellings.tellAll();
        return compare(tellings.probes, one.get(), other.get());
    }

    private static String compare(List<Probe> probes, OrphanShelf x, OrphanShelf y) {
        for (Probe probe : probes) {
            long got = probe.asking.on(x);
            long want = probe.asking.on(y);
            if (got != want) {
                return probe.name + " is " + got + " then, not " + want;
            }
        }
        return "";
    }

    private void ask(String name, Checks.Asking asking) {
        probes.add(new Probe(name, asking));
    }

    private void tell(String name, Checks.Telling telling) {
        probes.add(new Probe(name, x -> telling.on(x) ? 1 : 0));
    }

    /** The first three of some, and the last one. */
    private static int[] some(int n) {
        return n <= 4 ? range(n) : new int[] {0, 1, 2, n - 1};
    }

    private static int[] range(int n) {
        int[] all = new int[n];
        for (int i = 0; i < n; i++) {
            all[i] = i;
        }
        return all;
    }

    private int[] days() {
        return new int[] {0, Math.max(0, now - 1), now, 99999};
    }

    private void askAll() {
        for (int what = -1; what <= 121; what++) {
            int w = what;
            ask("count " + what, x -> x.count(w));
        }
        for (int w : some(works)) {
            askOfWork(w);
            for (int land = 0; land < 2; land++) {
                askOfLaws(w, land, now);
                askOfLaws(w, land, 99999);
                askCheapest(w, land);
            }
        }
        for (int o : some(owners)) {
            for (int day : days()) {
                ask("found " + o, x -> x.found(o, day, now));
                ask("found as known " + o, x -> x.found(o, now, day));
            }
            for (int k : some(leaves)) {
                ask("paid " + o + " " + k, x -> x.paid(o, k));
            }
        }
        askOfLists();
        askOfLeaves();
    }

    private void askOfWork(int w) {
        for (int day : days()) {
            for (int i = 0; i < 4; i++) {
                int share = i;
                ask("holds " + w + " " + i, x -> x.holds(w, share, day, now));
                ask("holds as known " + w + " " + i, x -> x.holds(w, share, now, day));
            }
            ask("nobody " + w, x -> x.nobody(w, day, now));
        }
        for (int v : some(works)) {
            ask("like " + w + " " + v, x -> x.like(w, v, 0));
            ask("like by 4 bits " + w + " " + v, x -> x.like(w, v, 4));
        }
    }

    private void askOfLaws(int w, int land, int day) {
        String at = " of " + w + " in " + land + " on " + day;
        for (int what = 0; what < 9; what++) {
            int which = what;
            ask("number " + what + at, x -> x.number(w, land, day, now, which));
        }
        for (int what = 0; what < 3; what++) {
            int which = what;
            ask("term " + what + at, x -> x.term(w, land, day, now, which));
            ask("why " + what + at, x -> x.why(w, land, day, now, which));
        }
        ask("free" + at, x -> x.free(w, land, day, now));
        ask("enough" + at, x -> x.enough(w, land, day, now));
        ask("enough as known then" + at, x -> x.enough(w, land, now, day));
    }

    private void askCheapest(int w, int land) {
        for (int what = NONE; what < 4; what++) {
            int which = what;
            ask("cheapest " + what + " of " + w + " in " + land, x -> x.cheapest(w, land, which));
        }
    }

    private void askOfLists() {
        for (int land = 0; land < 4; land++) {
            int a = land;
            int b = (land + 1) % 4;
            ask("shown " + land, x -> x.shown(a));
            for (int i = 0; i < 3; i++) {
                int two = i;
                ask("joined " + a + " " + b + " " + i, x -> x.joined(a, b, 8, two, 0));
                ask("joined with " + a + " " + b + " " + i, x -> x.joined(b, a, 0, two, 1));
            }
        }
    }

    private void askOfLeaves() {
        for (int what : new int[] {0, 1, 2, 3, 4, 10, 11, 12}) {
            ask("audit of one " + what, x -> x.audit(1, 5, what));
            ask("audit of all " + what, x -> x.audit(100, 0, what));
        }
        for (int k : some(leaves + 1)) {
            for (int what = 0; what < 8; what++) {
                int which = what;
                ask("leave " + k + " " + what, x -> x.leave(k, which));
            }
        }
    }

    private void tellAll() {
        ask("a law of the tape", x -> x.law(1, 0, 99999, bytes));
        ask("an order on the tape", x -> x.judge(0, 0, Math.min(bytes, 3)));
        ask("bytes", x -> x.count(8));
        ask("feed", x -> x.feed(0x70303b77, 0x39390000, 0, 0, 0));
        ask("law", x -> x.law(0, now, 99999, 6));
        tellOfOwners();
        tellOfWorks();
        tell("source", x -> x.source(11, 10000));
        tell("chance", x -> x.chance(11, 7, 100));
        tellOfLeaves();
        tell("now", x -> x.now(now));
        tell("the day behind", x -> x.now(now + 1));
        for (int what = 0; what < 9; what++) {
            int which = what;
            ask("count " + what, x -> x.count(which));
        }
    }

    private void tellOfOwners() {
        ask("owner", x -> x.owner(true, 3));
        tell("died", x -> x.died(0, 0, 0));
        tell("the last one died", x -> x.died(owners - 1, 0, now));
        for (int o : some(owners)) {
            tell("merge " + o + " with the last one", x -> x.merge(o, owners - 1, now));
            tell("merge " + o + " with the new one", x -> x.merge(o, owners, now));
        }
        ask("letter", x -> x.letter(0, now));
        tell("answer the first", x -> x.answer(0));
        tell("answer the last", x -> x.answer(letters - 1));
        tell("answer the new one", x -> x.answer(letters));
    }

    private void tellOfWorks() {
        ask("work", x -> x.work(0, 0, 0, now, 5, NONE));
        ask("work in the last one", x -> x.work(0, 0, 0, now, 5, works - 1));
        tell("share", x -> x.share(0, 0, 1));
        tell("share of the last one", x -> x.share(0, owners - 1, 1));
        tell("share of the last work", x -> x.share(works - 1, 0, 1));
        tell("all the rest", x -> x.share(0, 1, 99));
        ask("look", x -> x.look(0, 0, now, NONE));
        ask("look that finds", x -> x.look(0, 1, now, 0));
        tell("list", x -> x.list(0, 0));
        tell("list of another land", x -> x.list(works - 1, 1));
    }

    private void tellOfLeaves() {
        for (int w : some(works)) {
            ask("ask " + w, x -> x.ask(0, w, 0, 0));
        }
        tell("agree", x -> x.agree(0, 0));
        tell("the last one agrees", x -> x.agree(owners - 1, 0));
        tell("agree for the last work", x -> x.agree(0, works - 1));
        for (int w : some(works)) {
            ask("ask again " + w, x -> x.ask(9, w, 0, 0));
        }
        for (int k : some(leaves + 1)) {
            tell("uses " + k, x -> x.uses(k, now, 3, 7));
        }
        for (int o : some(owners)) {
            ask("comes " + o, x -> x.comes(o));
            for (int k : some(leaves + 1)) {
                ask("paid " + o + " " + k, x -> x.paid(o, k));
            }
        }
    }
}
