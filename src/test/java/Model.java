import java.util.ArrayList;
import java.util.List;

/** The document again, written another way: nothing is kept but what was told, each answer is counted anew. */
final class Model {
    private static final class Night {
        final int things;
        final boolean smudged;

        Night(int things, boolean smudged) {
            this.things = things;
            this.smudged = smudged;
        }

        boolean explainedBy(int set) {
            for (int thing = 0; thing < 8; thing++) {
                if (has(set, thing) && has(things, thing)) {
                    return smudged;
                }
            }
            return !smudged;
        }
    }

    private static final class Astronomer {
        final int first;
        int left;
        int blames;

        Astronomer(int first) {
            this.first = first;
            this.left = first;
        }
    }

    private int things;
    private int changes;
    private final List<Night> nights = new ArrayList<>();
    private final List<Astronomer> astronomers = new ArrayList<>();

    static boolean has(int set, int thing) {
        return set / (1 << thing) % 2 == 1;
    }

    private static int size(int set) {
        int size = 0;
        for (int thing = 0; thing < 8; thing++) {
            size += has(set, thing) ? 1 : 0;
        }
        return size;
    }

    private static void need(boolean so, RuntimeException otherwise) {
        if (!so) {
            throw otherwise;
        }
    }

    private int sets() {
        return 1 << things;
    }

    private void needThing(int thing) {
        need(0 <= thing && thing < things, new IndexOutOfBoundsException());
    }

    private Night night(int night) {
        need(0 <= night && night < nights.size(), new IndexOutOfBoundsException());
        return nights.get(night);
    }

    private Astronomer astronomer(int astronomer) {
        need(0 <= astronomer && astronomer < astronomers.size(), new IndexOutOfBoundsException());
        return astronomers.get(astronomer);
    }

    private void needNewNight(int set) {
        need(1 <= set && set < sets(), new IllegalArgumentException());
        need(nights.size() < 40, new IllegalStateException());
    }

    private static int unexplained(List<Night> nights, int set) {
        int count = 0;
        for (Night night : nights) {
            count += night.explainedBy(set) ? 0 : 1;
        }
        return count;
    }

    private List<Integer> explaining(List<Night> nights) {
        List<Integer> sets = new ArrayList<>();
        for (int set = 0; set < sets(); set++) {
            if (unexplained(nights, set) == 0) {
                sets.add(set);
            }
        }
        return sets;
    }

    private int simplestFor(List<Night> nights) {
        List<Integer> sets = explaining(nights);
        for (int size = 0; size <= 8; size++) {
            for (int set : sets) {
                if (size(set) == size) {
                    return set;
                }
            }
        }
        return -1;
    }

    int addThing() {
        need(things < 8, new IllegalStateException());
        return things++;
    }

    int addAstronomer(int stubbornness) {
        need(0 <= stubbornness && stubbornness <= 5, new IllegalArgumentException());
        need(astronomers.size() < 8, new IllegalStateException());
        astronomers.add(new Astronomer(stubbornness));
        return astronomers.size() - 1;
    }

    int blame(int number, int set) {
        Astronomer one = astronomer(number);
        need(0 <= set && set < sets(), new IllegalArgumentException());
        int before = one.blames;
        one.blames = set;
        one.left = one.first;
        return before;
    }

    int writeDown(int set, boolean smudged) {
        needNewNight(set);
        Night night = new Night(set, smudged);
        nights.add(night);
        int changed = 0;
        for (Astronomer one : astronomers) {
            if (night.explainedBy(one.blames)) {
                continue;
            }
            int better = simplestFor(nights);
            if (one.left > 0) {
                one.left -= 1;
            } else if (better >= 0) {
                changed += better == one.blames ? 0 : 1;
                one.blames = better;
                one.left = one.first;
            }
        }
        changes += changed;
        return changed;
    }

    int strike(int number) {
        night(number);
        nights.remove(number);
        return nights.size();
    }

    int things() {
        return things;
    }

    int nightsWith(int thing) {
        needThing(thing);
        return (int) nights.stream().filter(n -> has(n.things, thing)).count();
    }

    int smudgesWith(int thing) {
        needThing(thing);
        return (int) nights.stream().filter(n -> n.smudged && has(n.things, thing)).count();
    }

    boolean isCleared(int thing) {
        needThing(thing);
        return nights.stream().anyMatch(n -> !n.smudged && has(n.things, thing));
    }

    boolean isProved(int thing) {
        needThing(thing);
        return nights.stream().anyMatch(n -> n.smudged && has(n.things, thing) && othersCleared(n, thing));
    }

    private boolean othersCleared(Night night, int thing) {
        for (int other = 0; other < things; other++) {
            if (other != thing && has(night.things, other) && !isCleared(other)) {
                return false;
            }
        }
        return true;
    }

    int setsWith(int thing) {
        needThing(thing);
        return (int) explaining(nights).stream().filter(set -> has(set, thing)).count();
    }

    int nights() {
        return nights.size();
    }

    int smudges() {
        return (int) nights.stream().filter(n -> n.smudged).count();
    }

    int usedIn(int night) {
        return night(night).things;
    }

    boolean isSmudged(int night) {
        return night(night).smudged;
    }

    boolean agree() {
        return !explaining(nights).isEmpty();
    }

    int astronomers() {
        return astronomers.size();
    }

    int blamedBy(int number) {
        return astronomer(number).blames;
    }

    int stubbornnessOf(int number) {
        return astronomer(number).left;
    }

    int unexplainedBy(int number) {
        return unexplained(nights, astronomer(number).blames);
    }

    int votesFor(int thing) {
        needThing(thing);
        return (int) astronomers.stream().filter(one -> has(one.blames, thing)).count();
    }

    int vote() {
        int set = 0;
        for (int thing = 0; thing < things; thing++) {
            int against = astronomers.size() - votesFor(thing);
            set += votesFor(thing) > against ? 1 << thing : 0;
        }
        return set;
    }

    int changesOfMind() {
        return changes;
    }

    boolean explainsAll(int set) {
        need(0 <= set && set < sets(), new IllegalArgumentException());
        return explaining(nights).contains(set);
    }

    int explanations() {
        return explaining(nights).size();
    }

    int simplest() {
        return simplestFor(nights);
    }

    int surelyToBlame() {
        if (!agree()) {
            return -1;
        }
        int sure = 0;
        for (int thing = 0; thing < things; thing++) {
            sure += setsWith(thing) == explanations() ? 1 << thing : 0;
        }
        return sure;
    }

    int nightsToDoubt() {
        int least = 40;
        for (int set = 0; set < sets(); set++) {
            least = Math.min(least, unexplained(nights, set));
        }
        return least;
    }

    int leftIfSmudged(int set) {
        need(1 <= set && set < sets(), new IllegalArgumentException());
        return left(set, true);
    }

    private int left(int used, boolean smudged) {
        Night night = new Night(used, smudged);
        return (int) explaining(nights).stream().filter(night::explainedBy).count();
    }

    int bestNight() {
        List<Integer> now = explaining(nights);
        int best = -1;
        int least = Integer.MAX_VALUE;
        for (int used = 1; used < sets(); used++) {
            Night smudge = new Night(used, true);
            Night none = new Night(used, false);
            int with = 0;
            int without = 0;
            for (int set : now) {
                with += smudge.explainedBy(set) ? 1 : 0;
                without += none.explainedBy(set) ? 1 : 0;
            }
            if (Math.max(with, without) < least) {
                least = Math.max(with, without);
                best = used;
            }
        }
        return best;
    }

    int wouldChange(int set, boolean smudged) {
        needNewNight(set);
        Model copy = new Model();
        copy.things = things;
        copy.nights.addAll(nights);
        for (Astronomer one : astronomers) {
            Astronomer twin = new Astronomer(one.first);
            twin.left = one.left;
            twin.blames = one.blames;
            copy.astronomers.add(twin);
        }
        return copy.writeDown(set, smudged);
    }

    double meanBlame() {
        double blamed = 0;
        for (Astronomer one : astronomers) {
            blamed += size(one.blames);
        }
        return astronomers.isEmpty() ? 0.0 : blamed / astronomers.size();
    }

    long digest() {
        long d = 1951;
        int[] head = {things(), nights(), smudges(), agree() ? 1 : 0, astronomers(), vote(), changesOfMind(),
            explanations(), simplest(), surelyToBlame()};
        for (int x : head) {
            d = d * 31 + x;
        }
        for (int t = 0; t < things; t++) {
            int[] row = {nightsWith(t), smudgesWith(t), isCleared(t) ? 1 : 0, isProved(t) ? 1 : 0, setsWith(t),
                votesFor(t)};
            for (int x : row) {
                d = d * 31 + x;
            }
        }
        for (Night night : nights) {
            d = (d * 31 + night.things) * 31 + (night.smudged ? 1 : 0);
        }
        for (int a = 0; a < astronomers.size(); a++) {
            d = ((d * 31 + blamedBy(a)) * 31 + stubbornnessOf(a)) * 31 + unexplainedBy(a);
        }
        return d;
    }
}
