/** Promises 18 to 24, astronomers: each sentence that names a boundary case, with a test of its own. */
public final class AstronomersEdgesTest {
    private static final Check CHECK = new Check();

    public static void main(String[] args) {
        howManyAstronomers();
        whomOneBlames();
        blamedByNeedsAnAstronomer();
        howMuchIsLeft();
        stubbornnessOfNeedsAnAstronomer();
        howManyNightsAreNotExplained();
        unexplainedByNeedsAnAstronomer();
        howManyBlameAThing();
        votesForNeedsAThing();
        whomAVoteBlames();
        halfIsNotMoreThanHalf();
        howOftenByNights();
        howOftenInAll();
        CHECK.end();
    }

    private static void howManyAstronomers() {
        CHECK.sentence("promise 18", "Returns how many astronomers there are.");
        SmudgedStar star = new SmudgedStar();
        for (int count = 0; count <= 8; count++) {
            CHECK.same("astronomers()", star.astronomers(), count);
            if (count < 8) {
                star.addAstronomer(0);
            }
        }
    }

    private static void whomOneBlames() {
        CHECK.sentence("promise 19", "Returns the set of things that this one blames.");
        SmudgedStar star = Make.withBlame(8, 0, 255, 1, 128, 0, 0, 0, 255);
        int[] due = {0, 255, 1, 128, 0, 0, 0, 255};
        for (int astronomer = 0; astronomer < 8; astronomer++) {
            CHECK.same("blamedBy(" + astronomer + ")", star.blamedBy(astronomer), due[astronomer]);
        }
        SmudgedStar last = Make.withAstronomers(8, 5, 5, 5, 5, 5, 5, 5, 0);
        last.writeDown(128, true);
        CHECK.same("blamedBy(7), by a night", last.blamedBy(7), 128);
        CHECK.same("blamedBy(6), stubborn", last.blamedBy(6), 0);
    }

    private static void blamedByNeedsAnAstronomer() {
        CHECK.sentence("promise 19", "Throws `IndexOutOfBoundsException` if there is no such astronomer");
        takesAstronomers("blamedBy", SmudgedStar::blamedBy);
    }

    private static void howMuchIsLeft() {
        CHECK.sentence("promise 20", "Returns how much stubbornness is left.");
        SmudgedStar star = Make.withAstronomers(1, 0, 5, 4, 3, 2, 1, 0, 5);
        int[] first = {0, 5, 4, 3, 2, 1, 0, 5};
        for (int astronomer = 0; astronomer < 8; astronomer++) {
            CHECK.same("stubbornnessOf(" + astronomer + ")", star.stubbornnessOf(astronomer), first[astronomer]);
        }
        star.writeDown(1, true);
        int[] second = {0, 4, 3, 2, 1, 0, 0, 4};
        for (int astronomer = 0; astronomer < 8; astronomer++) {
            CHECK.same("stubbornnessOf(" + astronomer + ") then", star.stubbornnessOf(astronomer), second[astronomer]);
        }
        Make.writeDownOften(star, 4, 1, true);
        CHECK.same("stubbornnessOf(7), all gone", star.stubbornnessOf(7), 0);
        CHECK.same("stubbornnessOf(5), all there again", star.stubbornnessOf(5), 1);
    }

    private static void stubbornnessOfNeedsAnAstronomer() {
        CHECK.sentence("promise 20", "Throws `IndexOutOfBoundsException` if there is no such astronomer");
        takesAstronomers("stubbornnessOf", SmudgedStar::stubbornnessOf);
    }

    private static void howManyNightsAreNotExplained() {
        CHECK.sentence("promise 21", "Returns how many nights this one's set does not explain.");
        CHECK.same("unexplainedBy(0) without nights", Make.withBlame(8, 255).unexplainedBy(0), 0);
        SmudgedStar smudges = Make.withSameNights(8, 40, 255, true);
        smudges.addAstronomer(5);
        CHECK.same("unexplainedBy(0), the empty set and 40 smudges", smudges.unexplainedBy(0), 40);
        smudges.blame(0, 255);
        CHECK.same("unexplainedBy(0), all things and 40 smudges", smudges.unexplainedBy(0), 0);
        SmudgedStar none = Make.withSameNights(8, 40, 128, false);
        none.addAstronomer(5);
        CHECK.same("unexplainedBy(0), the empty set and 40 without", none.unexplainedBy(0), 0);
        none.blame(0, 255);
        CHECK.same("unexplainedBy(0), all things and 40 without", none.unexplainedBy(0), 40);
        none.strike(39);
        CHECK.same("unexplainedBy(0), one struck", none.unexplainedBy(0), 39);
    }

    private static void unexplainedByNeedsAnAstronomer() {
        CHECK.sentence("promise 21", "Throws `IndexOutOfBoundsException` if there is no such astronomer");
        takesAstronomers("unexplainedBy", SmudgedStar::unexplainedBy);
    }

    private static void howManyBlameAThing() {
        CHECK.sentence("promise 22", "Returns how many astronomers blame it.");
        CHECK.same("votesFor(7) without astronomers", Make.withThings(8).votesFor(7), 0);
        CHECK.same("votesFor(7), the empty set", Make.withBlame(8, 0).votesFor(7), 0);
        SmudgedStar star = Make.withAstronomers(8, 0, 0, 0, 0, 0, 0, 0, 0);
        for (int astronomer = 0; astronomer < 8; astronomer++) {
            star.blame(astronomer, 129);
            CHECK.same("votesFor(0)", star.votesFor(0), astronomer + 1);
            CHECK.same("votesFor(7)", star.votesFor(7), astronomer + 1);
            CHECK.same("votesFor(1), whom none blames", star.votesFor(1), 0);
        }
    }

    private static void votesForNeedsAThing() {
        CHECK.sentence("promise 22", "Throws `IndexOutOfBoundsException` if there is no such thing");
        CHECK.takesNumbersBelow(0, "votesFor without anything", SmudgedStar::new, SmudgedStar::votesFor);
        CHECK.takesNumbersBelow(0, "votesFor without things", () -> Make.withAstronomers(0, 1, 2),
                SmudgedStar::votesFor);
        CHECK.takesNumbersBelow(1, "votesFor with one", () -> Make.withThings(1), SmudgedStar::votesFor);
        CHECK.takesNumbersBelow(3, "votesFor with 3", Make::small, SmudgedStar::votesFor);
        CHECK.takesNumbersBelow(8, "votesFor with 8", Make::full, SmudgedStar::votesFor);
    }

    private static void whomAVoteBlames() {
        CHECK.sentence("promise 23", "Returns the set of things that a vote blames.");
        CHECK.same("vote() without anything", new SmudgedStar().vote(), 0);
        CHECK.same("vote() without things", Make.withBlame(0, 0).vote(), 0);
        CHECK.same("vote() without astronomers", Make.withThings(8).vote(), 0);
        CHECK.same("vote() of one for all things", Make.withBlame(8, 255).vote(), 255);
        CHECK.same("vote() of one for the empty set", Make.withBlame(8, 0).vote(), 0);
        CHECK.same("vote() of 8 for all things", Make.withBlame(8, 255, 255, 255, 255, 255, 255, 255, 255).vote(), 255);
        CHECK.same("vote() of 8 for the empty set", Make.withBlame(8, 0, 0, 0, 0, 0, 0, 0, 0).vote(), 0);
    }

    private static void halfIsNotMoreThanHalf() {
        CHECK.sentence("promise 23", "Returns the set of things that a vote blames.");
        CHECK.same("vote(), 1 of 2", Make.withBlame(8, 129, 0).vote(), 0);
        CHECK.same("vote(), 1 of 3", Make.withBlame(8, 129, 0, 0).vote(), 0);
        CHECK.same("vote(), 2 of 3", Make.withBlame(8, 129, 0, 129).vote(), 129);
        CHECK.same("vote(), 3 of 7", Make.withBlame(8, 129, 0, 129, 0, 129, 0, 0).vote(), 0);
        CHECK.same("vote(), 4 of 7", Make.withBlame(8, 129, 0, 129, 0, 129, 0, 129).vote(), 129);
        CHECK.same("vote(), 4 of 8", Make.withBlame(8, 129, 0, 129, 0, 129, 0, 129, 0).vote(), 0);
        CHECK.same("vote(), 5 of 8", Make.withBlame(8, 129, 129, 129, 0, 129, 0, 129, 0).vote(), 129);
    }

    private static void howOftenByNights() {
        CHECK.sentence("promise 24", "Returns how often astronomers blamed other things by nights that were written "
                + "down, in all.");
        CHECK.same("changesOfMind() without anything", new SmudgedStar().changesOfMind(), 0);
        SmudgedStar star = Make.withAstronomers(1, 0);
        star.blame(0, 1);
        star.blame(0, 0);
        CHECK.same("changesOfMind(), nothing by nights", star.changesOfMind(), 0);
        star.wouldChange(1, true);
        CHECK.same("changesOfMind(), not written down", star.changesOfMind(), 0);
        star.writeDown(1, true);
        CHECK.same("changesOfMind(), one", star.changesOfMind(), 1);
        star.writeDown(1, true);
        CHECK.same("changesOfMind(), a night explained", star.changesOfMind(), 1);
        star.writeDown(1, false);
        CHECK.same("changesOfMind(), nights contradict", star.changesOfMind(), 1);
        star.strike(0);
        star.strike(0);
        star.strike(0);
        CHECK.same("changesOfMind(), no nights any more", star.changesOfMind(), 1);
    }

    private static void howOftenInAll() {
        CHECK.sentence("promise 24", "in all.");
        SmudgedStar star = Make.withAstronomers(8, 0, 0, 0, 0, 0, 0, 0, 0);
        for (int round = 1; round <= 50; round++) {
            CHECK.same("writeDown() of round " + round, star.writeDown(255, round % 2 == 1), 8);
            CHECK.same("changesOfMind(), 8 each round", star.changesOfMind(), 8 * round);
            star.strike(0);
        }
    }

    private static void takesAstronomers(String name, Check.NumberCall call) {
        CHECK.takesNumbersBelow(0, name + " without anything", SmudgedStar::new, call);
        CHECK.takesNumbersBelow(0, name + " without astronomers", () -> Make.withNights(8, 255, 1), call);
        for (int astronomers = 1; astronomers <= 8; astronomers++) {
            int count = astronomers;
            CHECK.takesNumbersBelow(count, name + " of " + count, () -> Make.withAstronomers(0, new int[count]), call);
        }
        CHECK.takesNumbersBelow(2, name + " of two with things and nights", Make::small, call);
        CHECK.takesNumbersBelow(8, name + " with all of all", Make::full, call);
    }
}
