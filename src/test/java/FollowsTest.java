import java.math.BigInteger;

/** Promises 25 to 34: what follows. */
public final class FollowsTest {
    private static final Check CHECK = new Check();

    public static void main(String[] args) {
        explainsAll();
        explanations();
        simplest();
        surelyToBlame();
        nightsToDoubt();
        leftIfSmudged();
        bestNight();
        wouldChange();
        meanBlame();
        digest();
        digestWrapsAround();
        CHECK.end();
    }

    private static void explainsAll() {
        CHECK.promise("promise 25");
        SmudgedStar none = new SmudgedStar();
        CHECK.same("explainsAll(0) without anything", none.explainsAll(0), true);
        SmudgedStar free = Make.withThings(8);
        CHECK.same("explainsAll(0) without nights", free.explainsAll(0), true);
        CHECK.same("explainsAll(255) without nights", free.explainsAll(255), true);
        SmudgedStar star = Make.withNights(3, 3, 1, 1, 0);
        boolean[] due = {false, false, true, false, false, false, true, false};
        for (int set = 0; set < 8; set++) {
            CHECK.same("explainsAll(" + set + ")", star.explainsAll(set), due[set]);
        }
        SmudgedStar clean = Make.withNights(8, 255, 0);
        CHECK.same("explainsAll(0), no smudge", clean.explainsAll(0), true);
        CHECK.same("explainsAll(255), no smudge", clean.explainsAll(255), false);
    }

    private static void explanations() {
        CHECK.promise("promise 26");
        for (int things = 0; things <= 8; things++) {
            CHECK.same("explanations() without nights", Make.withThings(things).explanations(), 1 << things);
        }
        CHECK.same("explanations(), a smudge with all", Make.withNights(8, 255, 1).explanations(), 255);
        CHECK.same("explanations(), no smudge with all", Make.withNights(8, 255, 0).explanations(), 1);
        CHECK.same("explanations()", Make.withNights(4, 3, 1, 1, 0).explanations(), 4);
        CHECK.same("explanations(), nights contradict", Make.withNights(4, 1, 1, 1, 0).explanations(), 0);
    }

    private static void simplest() {
        CHECK.promise("promise 27");
        CHECK.same("simplest() without anything", new SmudgedStar().simplest(), 0);
        CHECK.same("simplest() without nights", Make.withThings(8).simplest(), 0);
        CHECK.same("simplest(), fewest before smallest", Make.withNights(3, 5, 1, 6, 1).simplest(), 4);
        CHECK.same("simplest(), smallest of one thing", Make.withNights(8, 192, 1).simplest(), 64);
        CHECK.same("simplest(), smallest of two", Make.withNights(3, 3, 1, 5, 1, 6, 1).simplest(), 3);
        CHECK.same("simplest(), all of 8", Make.withNights(8, 1, 1, 2, 1, 4, 1, 8, 1, 16, 1, 32, 1, 64, 1, 128, 1)
                .simplest(), 255);
        CHECK.same("simplest(), nights contradict", Make.withNights(2, 1, 1, 1, 0).simplest(), -1);
    }

    private static void surelyToBlame() {
        CHECK.promise("promise 28");
        CHECK.same("surelyToBlame() without anything", new SmudgedStar().surelyToBlame(), 0);
        CHECK.same("surelyToBlame() without nights", Make.withThings(8).surelyToBlame(), 0);
        CHECK.same("surelyToBlame(), one of two", Make.withNights(2, 3, 1).surelyToBlame(), 0);
        CHECK.same("surelyToBlame()", Make.withNights(3, 3, 1, 1, 0, 4, 1).surelyToBlame(), 6);
        CHECK.same("surelyToBlame(), one free", Make.withNights(8, 128, 1, 3, 1).surelyToBlame(), 128);
        CHECK.same("surelyToBlame(), nights contradict", Make.withNights(2, 1, 1, 1, 0).surelyToBlame(), -1);
    }

    private static void nightsToDoubt() {
        CHECK.promise("promise 29");
        CHECK.same("nightsToDoubt() without anything", new SmudgedStar().nightsToDoubt(), 0);
        CHECK.same("nightsToDoubt(), nights agree", Make.withNights(2, 3, 1, 1, 0).nightsToDoubt(), 0);
        CHECK.same("nightsToDoubt(), one", Make.withNights(2, 1, 1, 1, 0, 1, 1).nightsToDoubt(), 1);
        CHECK.same("nightsToDoubt(), two", Make.withNights(2, 1, 1, 1, 0, 2, 0, 2, 1).nightsToDoubt(), 2);
        CHECK.same("nightsToDoubt(), one against three", Make.withNights(3, 7, 1, 1, 0, 2, 0, 4, 0).nightsToDoubt(), 1);
        SmudgedStar half = Make.withThings(8);
        for (int night = 0; night < 40; night++) {
            half.writeDown(255, night % 2 == 0);
        }
        CHECK.same("nightsToDoubt(), half of 40", half.nightsToDoubt(), 20);
    }

    private static void leftIfSmudged() {
        CHECK.promise("promise 30");
        SmudgedStar free = Make.withThings(8);
        CHECK.same("leftIfSmudged(255) without nights", free.leftIfSmudged(255), 255);
        CHECK.same("leftIfSmudged(128) without nights", free.leftIfSmudged(128), 128);
        SmudgedStar star = Make.withNights(3, 3, 1);
        CHECK.same("leftIfSmudged(1)", star.leftIfSmudged(1), 4);
        CHECK.same("leftIfSmudged(3)", star.leftIfSmudged(3), 6);
        CHECK.same("leftIfSmudged(5)", star.leftIfSmudged(5), 5);
        star.writeDown(4, false);
        CHECK.same("leftIfSmudged(4), cleared", star.leftIfSmudged(4), 0);
        CHECK.same("leftIfSmudged(1), two left of three", star.leftIfSmudged(1), 2);
        SmudgedStar contradicting = Make.withNights(2, 1, 1, 1, 0);
        CHECK.same("leftIfSmudged(3), nights contradict", contradicting.leftIfSmudged(3), 0);
        SmudgedStar full = Make.withThings(1);
        for (int night = 0; night < 40; night++) {
            full.writeDown(1, true);
        }
        CHECK.same("leftIfSmudged(1) with 40 nights", full.leftIfSmudged(1), 1);
    }

    private static void bestNight() {
        CHECK.promise("promise 31");
        CHECK.same("bestNight() without things", new SmudgedStar().bestNight(), -1);
        CHECK.same("bestNight() without nights", Make.withThings(8).bestNight(), 1);
        CHECK.same("bestNight(), nights contradict", Make.withNights(3, 1, 1, 1, 0).bestNight(), 1);
        CHECK.same("bestNight(), one set left", Make.withNights(2, 3, 0).bestNight(), 1);
        CHECK.same("bestNight(), thing 0 is sure", Make.withNights(3, 1, 1).bestNight(), 2);
        CHECK.same("bestNight(), thing 0 cleared", Make.withNights(3, 1, 0).bestNight(), 2);
        CHECK.same("bestNight(), one of three is left", Make.withNights(2, 3, 1).bestNight(), 1);
        CHECK.same("bestNight(), an unused thing halves", Make.withNights(3, 3, 1).bestNight(), 4);
        // The sets 3 to 7 explain all: thing 0 is in three of them, and no night parts five better than 3 to 2.
        CHECK.same("bestNight(), five parted 3 to 2", Make.withNights(3, 5, 1, 6, 1).bestNight(), 1);
        CHECK.same("bestNight(), four parted 3 to 1", Make.withNights(3, 3, 1, 5, 1, 6, 1).bestNight(), 1);
        CHECK.same("bestNight(), nine parted 6 to 3", Make.withNights(4, 3, 1, 12, 1).bestNight(), 1);
        CHECK.same("bestNight() of 8 with a sure one", Make.withNights(8, 1, 1, 2, 1, 4, 1, 8, 1, 16, 1, 32, 1, 64, 1)
                .bestNight(), 128);
        CHECK.same("bestNight() of 8, all sure", Make.withNights(8, 1, 1, 2, 1, 4, 1, 8, 1, 16, 1, 32, 1, 64, 1, 128, 1)
                .bestNight(), 1);
        CHECK.same("bestNight() with 40 nights", Make.full().bestNight(), 1);
    }

    private static void wouldChange() {
        CHECK.promise("promise 32");
        SmudgedStar star = Make.withAstronomers(2, 0, 0, 1, 5);
        star.blame(1, 3);
        String before = Answers.of(star);
        CHECK.same("wouldChange(1, true)", star.wouldChange(1, true), 1);
        CHECK.same("wouldChange(1, false)", star.wouldChange(1, false), 1);
        CHECK.same("after wouldChange() everything", Answers.of(star), before);
        CHECK.same("writeDown(2, true)", star.writeDown(2, true), 1);
        CHECK.same("wouldChange(3, true), as one's stubbornness is gone", star.wouldChange(3, true), 1);
        CHECK.same("wouldChange(2, false), against a night", star.wouldChange(2, false), 0);
        CHECK.same("wouldChange(1, true), of two", star.wouldChange(1, true), 2);
        CHECK.same("writeDown(1, true), of two", star.writeDown(1, true), 2);
        star.writeDown(1, false);
        CHECK.same("wouldChange(3, true), nights contradict", star.wouldChange(3, true), 0);
        CHECK.same("wouldChange(1, true) without astronomers", Make.withThings(1).wouldChange(1, true), 0);
        SmudgedStar eight = Make.withAstronomers(8, 0, 0, 0, 0, 0, 0, 0, 0);
        CHECK.same("wouldChange(255, true) of 8", eight.wouldChange(255, true), 8);
        CHECK.same("wouldChange(255, false) of 8", eight.wouldChange(255, false), 0);
    }

    private static void meanBlame() {
        CHECK.promise("promise 33");
        CHECK.same("meanBlame() without astronomers", Make.withThings(8).meanBlame(), 0.0);
        SmudgedStar star = Make.withAstronomers(8, 0, 0, 0);
        CHECK.same("meanBlame() of empty sets", star.meanBlame(), 0.0);
        star.blame(0, 255);
        CHECK.same("meanBlame()", star.meanBlame(), 8.0 / 3.0);
        star.blame(1, 6);
        star.blame(2, 129);
        CHECK.same("meanBlame()", star.meanBlame(), 4.0);
        star.addAstronomer(5);
        star.blame(3, 4);
        CHECK.same("meanBlame()", star.meanBlame(), 3.25);
    }

    private static void digest() {
        CHECK.promise("promise 34");
        CHECK.same("digest() of a new object", new SmudgedStar().digest(), checksum(0, 0, 0, 1, 0, 0, 0, 1, 0, 0));
        SmudgedStar star = Make.withAstronomers(2, 0, 3);
        star.writeDown(3, true);
        star.writeDown(1, false);
        CHECK.same("digest()", star.digest(), checksum(
                2, 2, 1, 1, 2, 0, 2, 1, 2, 2,
                2, 1, 1, 0, 0, 0,
                1, 1, 0, 1, 1, 1,
                3, 1, 1, 0,
                2, 0, 0,
                0, 2, 1));
        CHECK.same("digest(), the simplest not sure", Make.withNights(2, 3, 1).digest(), checksum(
                2, 1, 1, 1, 0, 0, 0, 3, 1, 0,
                1, 1, 0, 0, 2, 0,
                1, 1, 0, 0, 2, 0,
                3, 1));
        SmudgedStar contradicting = Make.withNights(1, 1, 1, 1, 0);
        CHECK.same("digest(), nights contradict", contradicting.digest(), checksum(
                1, 2, 1, 0, 0, 0, 0, 0, -1, -1,
                2, 1, 1, 1, 0, 0,
                1, 1, 1, 0));
    }

    private static void digestWrapsAround() {
        CHECK.promise("promise 34");
        SmudgedStar full = Make.full();
        CHECK.same("digest() of a full object", full.digest(), checksum(numbersOf(full)));
    }

    private static long[] numbersOf(SmudgedStar star) {
        long[] head = {star.things(), star.nights(), star.smudges(), bit(star.agree()), star.astronomers(), star.vote(),
            star.changesOfMind(), star.explanations(), star.simplest(), star.surelyToBlame()};
        long[] all = new long[10 + 6 * star.things() + 2 * star.nights() + 3 * star.astronomers()];
        System.arraycopy(head, 0, all, 0, head.length);
        int at = head.length;
        for (int thing = 0; thing < star.things(); thing++) {
            all[at++] = star.nightsWith(thing);
            all[at++] = star.smudgesWith(thing);
            all[at++] = bit(star.isCleared(thing));
            all[at++] = bit(star.isProved(thing));
            all[at++] = star.setsWith(thing);
            all[at++] = star.votesFor(thing);
        }
        for (int night = 0; night < star.nights(); night++) {
            all[at++] = star.usedIn(night);
            all[at++] = bit(star.isSmudged(night));
        }
        for (int astronomer = 0; astronomer < star.astronomers(); astronomer++) {
            all[at++] = star.blamedBy(astronomer);
            all[at++] = star.stubbornnessOf(astronomer);
            all[at++] = star.unexplainedBy(astronomer);
        }
        return all;
    }

    private static long bit(boolean so) {
        return so ? 1 : 0;
    }

    /** Without wrapping on the way: the whole number first, its lowest 64 bits at the end. */
    private static long checksum(long... numbers) {
        BigInteger d = BigInteger.valueOf(1951);
        for (long x : numbers) {
            d = d.multiply(BigInteger.valueOf(31)).add(BigInteger.valueOf(x));
        }
        return d.longValue();
    }
}
