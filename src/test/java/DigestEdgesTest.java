/**
 * Promise 34, digest: each sentence that names a boundary case, with a test of its own. The numbers that are due were
 * counted outside Java, with whole numbers of any length, of which the lowest 64 bits were kept.
 */
public final class DigestEdgesTest {
    private static final Check CHECK = new Check();

    public static void main(String[] args) {
        startsWith1951();
        justBelowTheWrap();
        wrapsAround();
        wrapsToBelowZero();
        minusOne();
        oneOrZero();
        theFirstTen();
        emptyRows();
        fullRows();
        changesNothing();
        CHECK.end();
    }

    private static void startsWith1951() {
        CHECK.sentence("promise 34", "A number d starts with 1951;");
        long d = 1951;
        for (int x : new int[] {0, 0, 0, 1, 0, 0, 0, 1, 0, 0}) {
            d = d * 31 + x;
        }
        CHECK.same("digest() of a new object", new SmudgedStar().digest(), d);
    }

    private static void justBelowTheWrap() {
        CHECK.sentence("promise 34", "which wraps around as a 64-bit integer");
        CHECK.same("digest() of a new object, the only one that does not wrap", new SmudgedStar().digest(),
                1599094788787047393L);
    }

    private static void wrapsAround() {
        CHECK.sentence("promise 34", "which wraps around as a 64-bit integer");
        CHECK.same("digest() with an astronomer of 0", Make.withAstronomers(0, 0).digest(), 9139655289757649792L);
        CHECK.same("digest() with an astronomer of 5", Make.withAstronomers(0, 5).digest(), 9139655289757649947L);
        CHECK.same("digest() with a thing", Make.withThings(1).digest(), 6506331679294008352L);
        CHECK.same("digest() with two things", Make.withThings(2).digest(), 4008733549244239966L);
        CHECK.same("digest() with 7 things", Make.withThings(7).digest(), 6159852442808024953L);
    }

    private static void wrapsToBelowZero() {
        CHECK.sentence("promise 34", "which wraps around as a 64-bit integer");
        CHECK.same("digest() with 3 things", Make.withThings(3).digest(), -8207977714107982663L);
        CHECK.same("digest() with 8 things", Make.withThings(8).digest(), -6474431136099385832L);
        CHECK.same("digest() with a few of each", Make.small().digest(), -5783448121219321962L);
    }

    private static void minusOne() {
        CHECK.sentence("promise 34", "d becomes d * 31 + x");
        CHECK.same("digest(), simplest() and surelyToBlame() are -1", Make.withNights(1, 1, 1, 1, 0).digest(),
                -465730711059933283L);
    }

    private static void oneOrZero() {
        CHECK.sentence("promise 34", "(whether something is so counts 1 or 0)");
        long first = Make.withNights(1, 1, 1, 1, 0).digest();
        long second = Make.withNights(1, 1, 0, 1, 1).digest();
        CHECK.same("digest(), a smudge in the first of two nights against one in the second", first - second,
                31L * 31 - 1);
        CHECK.same("digest(), a smudge in the second of two nights", second, -465730711059934243L);
    }

    private static void theFirstTen() {
        CHECK.sentence("promise 34", "things(), nights(), smudges(), agree(), astronomers(), vote(), changesOfMind(), "
                + "explanations(), simplest(), surelyToBlame();");
        SmudgedStar star = Make.withAstronomers(1, 5, 5, 0);
        Make.writeDown(star, 1, 1, 1, 1);
        CHECK.same("digest() of nights that agree", star.digest(),
                mixed(1951, 1, 2, 2, 1, 3, 0, 1, 1, 1, 1, 2, 2, 0, 1, 1, 1, 1, 1, 1, 1, 0, 3, 2, 0, 3, 2, 1, 0, 0));
        star.writeDown(1, false);
        star.blame(0, 1);
        CHECK.same("digest() of nights that contradict", star.digest(),
                mixed(1951, 1, 3, 2, 0, 3, 1, 1, 0, -1, -1, 3, 2, 1, 1, 0, 2, 1, 1, 1, 1, 1, 0, 1, 5, 1, 0, 3, 2, 1, 0,
                        1));
        SmudgedStar free = Make.withNights(3, 6, 1);
        CHECK.same("digest(), the simplest set is not sure", free.digest(),
                mixed(1951, 3, 1, 1, 1, 0, 0, 0, 6, 2, 0, 0, 0, 0, 0, 3, 0, 1, 1, 0, 0, 4, 0, 1, 1, 0, 0, 4, 0, 6, 1));
    }

    private static void emptyRows() {
        CHECK.sentence("promise 34", "then for each thing nightsWith(), smudgesWith(), isCleared(), isProved(), "
                + "setsWith(), votesFor(); then for each night usedIn(), isSmudged(); then for each astronomer "
                + "blamedBy(), stubbornnessOf(), unexplainedBy().");
        CHECK.same("digest() without any of them", new SmudgedStar().digest(),
                mixed(1951, 0, 0, 0, 1, 0, 0, 0, 1, 0, 0));
        CHECK.same("digest() with things alone", Make.withThings(2).digest(),
                mixed(1951, 2, 0, 0, 1, 0, 0, 0, 4, 0, 0, 0, 0, 0, 0, 2, 0, 0, 0, 0, 0, 2, 0));
        CHECK.same("digest() with astronomers alone", Make.withAstronomers(0, 4, 1).digest(),
                mixed(1951, 0, 0, 0, 1, 2, 0, 0, 1, 0, 0, 0, 4, 0, 0, 1, 0));
        CHECK.same("digest() without astronomers", Make.withNights(1, 1, 1).digest(),
                mixed(1951, 1, 1, 1, 1, 0, 0, 0, 1, 1, 1, 1, 1, 0, 1, 1, 0, 1, 1));
    }

    private static void fullRows() {
        CHECK.sentence("promise 34", "then for each thing nightsWith(), smudgesWith(), isCleared(), isProved(), "
                + "setsWith(), votesFor(); then for each night usedIn(), isSmudged(); then for each astronomer "
                + "blamedBy(), stubbornnessOf(), unexplainedBy().");
        CHECK.same("digest() of 8, 40 and 8 that contradict", Make.full().digest(), -4810999099187851044L);
        CHECK.same("digest() of 8, 40 and 8 that agree", Make.fullThatAgrees().digest(), -3267179376533585155L);
    }

    private static void changesNothing() {
        CHECK.sentence("promise 34", "Computes a checksum.");
        CHECK.onlyAnswers("digest() of a few of each", Make::small, -5783448121219321962L, SmudgedStar::digest);
        SmudgedStar star = Make.fullThatAgrees();
        CHECK.same("digest() twice", star.digest(), star.digest());
    }

    private static long mixed(long start, long... numbers) {
        long d = start;
        for (long x : numbers) {
            d = d * 31 + x;
        }
        return d;
    }
}
