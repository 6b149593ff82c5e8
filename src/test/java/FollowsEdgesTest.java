import java.util.function.Supplier;

/** Promises 25 to 33, what follows: each sentence that names a boundary case, with a test of its own. */
public final class FollowsEdgesTest {
    private static final Class<IllegalStateException> STATE = IllegalStateException.class;
    private static final Class<IllegalArgumentException> ARGUMENT = IllegalArgumentException.class;
    private static final int[] EACH_SMUDGED = {1, 1, 2, 1, 4, 1, 8, 1, 16, 1, 32, 1, 64, 1, 128, 1};
    private static final Check CHECK = new Check();

    public static void main(String[] args) {
        whetherASetExplainsAll();
        explainsAllNeedsASet();
        howManySetsExplainAll();
        fewestThings();
        smallestNumber();
        noneIsSimplest();
        thingsInEachSet();
        noneIsSurelyToBlame();
        howFewNights();
        noNightsIfTheyAgree();
        nightsToDoubtChangesNothing();
        howManyAreLeft();
        leftIfSmudgedChangesNothing();
        leftIfSmudgedNeedsASet();
        theNightThatTellsTheMost();
        smallestNumberOfNights();
        bestWithoutThings();
        bestNightChangesNothing();
        howManyWouldChange();
        noneWouldChange();
        oneSetAloneIsTakenUp();
        wouldChangeChangesNothing();
        wouldChangeNeedsASet();
        wouldChangeNeedsRoom();
        meanOfThings();
        meanWithoutAstronomers();
        CHECK.end();
    }

    private static SmudgedStar eachSmudged() {
        return Make.withNights(8, EACH_SMUDGED);
    }

    private static SmudgedStar contradicting() {
        return Make.withNights(8, 255, 1, 255, 0);
    }

    private static void whetherASetExplainsAll() {
        CHECK.sentence("promise 25", "Returns whether it explains all nights.");
        CHECK.same("explainsAll(0) without anything", new SmudgedStar().explainsAll(0), true);
        CHECK.same("explainsAll(255) without nights", Make.withThings(8).explainsAll(255), true);
        CHECK.same("explainsAll(255), each thing smudges", eachSmudged().explainsAll(255), true);
        CHECK.same("explainsAll(254), each thing smudges", eachSmudged().explainsAll(254), false);
        CHECK.same("explainsAll(0), nothing smudges", Make.withNights(8, 255, 0).explainsAll(0), true);
        CHECK.same("explainsAll(1), nothing smudges", Make.withNights(8, 255, 0).explainsAll(1), false);
        CHECK.same("explainsAll(0), nights contradict", contradicting().explainsAll(0), false);
        CHECK.same("explainsAll(255), nights contradict", contradicting().explainsAll(255), false);
        CHECK.same("explainsAll(129) of 40 nights", Make.fullThatAgrees().explainsAll(129), true);
    }

    private static void explainsAllNeedsASet() {
        CHECK.sentence("promise 25", "Throws `IllegalArgumentException` if things is not 0 to the set of all things");
        CHECK.takesSetsFrom(0, "explainsAll", SmudgedStar::explainsAll);
        CHECK.takesFromTo(0, 255, "explainsAll of 40 nights", Make::full, ARGUMENT, SmudgedStar::explainsAll);
    }

    private static void howManySetsExplainAll() {
        CHECK.sentence("promise 26", "Returns how many sets explain all nights.");
        CHECK.same("explanations() without anything", new SmudgedStar().explanations(), 1);
        for (int things = 1; things <= 8; things++) {
            int all = (1 << things) - 1;
            String of = " of " + things;
            CHECK.same("explanations() without nights" + of, Make.withThings(things).explanations(), all + 1);
            SmudgedStar smudge = Make.withNights(things, all, 1);
            CHECK.same("explanations(), all but the empty set" + of, smudge.explanations(), all);
            CHECK.same("explanations(), the empty set" + of, Make.withNights(things, all, 0).explanations(), 1);
        }
        CHECK.same("explanations(), the set of all things", eachSmudged().explanations(), 1);
        CHECK.same("explanations(), none", contradicting().explanations(), 0);
        CHECK.same("explanations() of 40 nights", Make.withSameNights(8, 40, 255, true).explanations(), 255);
    }

    private static void fewestThings() {
        CHECK.sentence("promise 27", "Returns the set of the fewest things that explains all nights,");
        CHECK.same("simplest() without anything", new SmudgedStar().simplest(), 0);
        CHECK.same("simplest() without nights", Make.withThings(8).simplest(), 0);
        CHECK.same("simplest(), 40 without a smudge", Make.withSameNights(8, 40, 255, false).simplest(), 0);
        CHECK.same("simplest(), all things", eachSmudged().simplest(), 255);
        CHECK.same("simplest(), the last thing against two", Make.withNights(8, 129, 1, 130, 1).simplest(), 128);
    }

    private static void smallestNumber() {
        CHECK.sentence("promise 27", "of several the one with the smallest number;");
        CHECK.same("simplest() of 8 sets of one", Make.withNights(8, 255, 1).simplest(), 1);
        CHECK.same("simplest() of the last two", Make.withNights(8, 192, 1).simplest(), 64);
        CHECK.same("simplest() of 16 sets of two", Make.withNights(8, 15, 1, 240, 1).simplest(), 17);
        CHECK.same("simplest() of three sets of seven",
                Make.withNights(8, 3, 1, 5, 1, 6, 1, 8, 1, 16, 1, 32, 1, 64, 1, 128, 1).simplest(), 251);
    }

    private static void noneIsSimplest() {
        CHECK.sentence("promise 27", "-1 if none does.");
        CHECK.same("simplest(), nights contradict", contradicting().simplest(), -1);
        CHECK.same("simplest() of one thing, nights contradict", Make.withNights(1, 1, 0, 1, 1).simplest(), -1);
        SmudgedStar star = Make.withSameNights(8, 39, 128, true);
        star.writeDown(128, false);
        CHECK.same("simplest(), the last of 40 contradicts", star.simplest(), -1);
        star.strike(39);
        CHECK.same("simplest(), that one struck", star.simplest(), 128);
    }

    private static void thingsInEachSet() {
        CHECK.sentence("promise 28", "Returns the set of all things that are in each set that explains all nights;");
        CHECK.same("surelyToBlame() without anything, the empty set", new SmudgedStar().surelyToBlame(), 0);
        CHECK.same("surelyToBlame() without nights", Make.withThings(8).surelyToBlame(), 0);
        CHECK.same("surelyToBlame(), each thing smudges", eachSmudged().surelyToBlame(), 255);
        CHECK.same("surelyToBlame(), nothing smudges", Make.withNights(8, 255, 0).surelyToBlame(), 0);
        CHECK.same("surelyToBlame(), any of 8", Make.withNights(8, 255, 1).surelyToBlame(), 0);
        CHECK.same("surelyToBlame(), the last of 8", Make.withNights(8, 255, 1, 127, 0).surelyToBlame(), 128);
        CHECK.same("surelyToBlame() of 40 nights", Make.fullThatAgrees().surelyToBlame(), 129);
    }

    private static void noneIsSurelyToBlame() {
        CHECK.sentence("promise 28", "-1 if none does.");
        CHECK.same("surelyToBlame(), nights contradict", contradicting().surelyToBlame(), -1);
        CHECK.same("surelyToBlame() of 40 that contradict", Make.full().surelyToBlame(), -1);
        SmudgedStar star = Make.withNights(1, 1, 0, 1, 1);
        CHECK.same("surelyToBlame() of one thing, nights contradict", star.surelyToBlame(), -1);
        star.strike(0);
        CHECK.same("surelyToBlame(), nights agree again", star.surelyToBlame(), 1);
    }

    private static void howFewNights() {
        CHECK.sentence("promise 29", "Returns how few nights would have to be struck, so that the others agree");
        for (int smudges = 0; smudges <= 40; smudges++) {
            SmudgedStar star = Make.withSameNights(8, smudges, 255, true);
            Make.writeDownOften(star, 40 - smudges, 255, false);
            CHECK.same("nightsToDoubt(), " + smudges + " smudges of 40", star.nightsToDoubt(),
                    Math.min(smudges, 40 - smudges));
        }
        SmudgedStar each = Make.withThings(8);
        for (int thing = 0; thing < 8; thing++) {
            Make.writeDown(each, 1 << thing, 1, 1 << thing, 0);
        }
        CHECK.same("nightsToDoubt(), one for each thing", each.nightsToDoubt(), 8);
        CHECK.same("nightsToDoubt(), the set of all things misses least",
                Make.withNights(2, 1, 1, 2, 1, 1, 1, 2, 1, 3, 0).nightsToDoubt(), 1);
    }

    private static void noNightsIfTheyAgree() {
        CHECK.sentence("promise 29", "0 if they do now");
        CHECK.same("nightsToDoubt() without anything", new SmudgedStar().nightsToDoubt(), 0);
        CHECK.same("nightsToDoubt() without nights", Make.withThings(8).nightsToDoubt(), 0);
        CHECK.same("nightsToDoubt(), all things alone", eachSmudged().nightsToDoubt(), 0);
        CHECK.same("nightsToDoubt(), the empty set alone", Make.withNights(8, 255, 0).nightsToDoubt(), 0);
        CHECK.same("nightsToDoubt() of 40 that agree", Make.fullThatAgrees().nightsToDoubt(), 0);
        CHECK.same("nightsToDoubt(), just not", contradicting().nightsToDoubt(), 1);
    }

    private static void nightsToDoubtChangesNothing() {
        CHECK.sentence("promise 29", "(nothing is changed).");
        CHECK.onlyAnswers("nightsToDoubt() without anything", SmudgedStar::new, 0, SmudgedStar::nightsToDoubt);
        CHECK.onlyAnswers("nightsToDoubt() of two", Make::small, 0, SmudgedStar::nightsToDoubt);
        CHECK.onlyAnswers("nightsToDoubt() of two that contradict", FollowsEdgesTest::contradicting, 1,
                SmudgedStar::nightsToDoubt);
        CHECK.onlyAnswers("nightsToDoubt() of 40", Make::fullThatAgrees, 0, SmudgedStar::nightsToDoubt);
    }

    private static void howManyAreLeft() {
        CHECK.sentence("promise 30", "Returns how many of the sets that explain all nights would still do so, if these "
                + "were used and there was a smudge");
        for (int things = 1; things <= 8; things++) {
            int all = (1 << things) - 1;
            SmudgedStar star = Make.withThings(things);
            CHECK.same("leftIfSmudged(1) of " + things, star.leftIfSmudged(1), 1 << (things - 1));
            CHECK.same("leftIfSmudged(" + all + "), all but the empty set", star.leftIfSmudged(all), all);
        }
        CHECK.same("leftIfSmudged(255), the empty set alone", Make.withNights(8, 255, 0).leftIfSmudged(255), 0);
        CHECK.same("leftIfSmudged(255), all things alone", eachSmudged().leftIfSmudged(255), 1);
        CHECK.same("leftIfSmudged(1), all things alone", eachSmudged().leftIfSmudged(1), 1);
        CHECK.same("leftIfSmudged(255), no set", contradicting().leftIfSmudged(255), 0);
        CHECK.same("leftIfSmudged(128), that was written down before", Make.withNights(8, 128, 1).leftIfSmudged(128),
                128);
        CHECK.same("leftIfSmudged(128), cleared", Make.withNights(8, 128, 0).leftIfSmudged(128), 0);
        CHECK.same("leftIfSmudged(2) with 40 nights", Make.fullThatAgrees().leftIfSmudged(2), 4);
    }

    private static void leftIfSmudgedChangesNothing() {
        CHECK.sentence("promise 30", "(nothing is changed).");
        CHECK.onlyAnswers("leftIfSmudged(7) of two", Make::small, 3, star -> star.leftIfSmudged(7));
        CHECK.onlyAnswers("leftIfSmudged(2) of 40", Make::fullThatAgrees, 4, star -> star.leftIfSmudged(2));
        CHECK.onlyAnswers("leftIfSmudged(1) of 40 that contradict", Make::full, 0, star -> star.leftIfSmudged(1));
    }

    private static void leftIfSmudgedNeedsASet() {
        CHECK.sentence("promise 30", "Throws `IllegalArgumentException` if things is not 1 to the set of all things");
        CHECK.takesSetsFrom(1, "leftIfSmudged", SmudgedStar::leftIfSmudged);
        CHECK.takesFromTo(1, 255, "leftIfSmudged with 40 nights", Make::full, ARGUMENT, SmudgedStar::leftIfSmudged);
    }

    private static void theNightThatTellsTheMost() {
        CHECK.sentence("promise 31", "Looks for the night that would tell the most: a set of things to be used, by "
                + "which the greater one of what is left with a smudge and without one is the least.");
        CHECK.same("bestNight(), 1 and 1 by the last of 8", Make.withNights(8, 127, 0).bestNight(), 128);
        CHECK.same("bestNight(), 2 and 1 by one of two", Make.withNights(8, 192, 1, 63, 0).bestNight(), 64);
        // With a smudge by 1, 2 or 4 four of the seven sets are left, without one three.
        CHECK.same("bestNight(), 4 and 3", Make.withNights(3, 7, 1).bestNight(), 1);
        CHECK.same("bestNight(), by 1 all or none, a smudge is sure", Make.withNights(2, 1, 1).bestNight(), 2);
        CHECK.same("bestNight(), by 1 none or all, no smudge is sure", Make.withNights(2, 1, 0).bestNight(), 2);
    }

    private static void smallestNumberOfNights() {
        CHECK.sentence("promise 31", "Returns this set, of several the one with the smallest number;");
        for (int things = 1; things <= 8; things++) {
            CHECK.same("bestNight() of " + things + " without nights", Make.withThings(things).bestNight(), 1);
        }
        CHECK.same("bestNight(), each of the last two halves", Make.withNights(8, 63, 0).bestNight(), 64);
        CHECK.same("bestNight(), 3 and 1 by each of three", Make.withNights(3, 3, 1, 5, 1, 6, 1).bestNight(), 1);
        SmudgedStar pairs = Make.withNights(8, 15, 0, 48, 1, 192, 1);
        CHECK.same("bestNight(), 6 and 3 by each of the last four", pairs.bestNight(), 16);
        CHECK.same("bestNight(), one set left, each night is as good", eachSmudged().bestNight(), 1);
        CHECK.same("bestNight(), the empty set left, each night is as good", Make.withNights(8, 255, 0).bestNight(), 1);
        CHECK.same("bestNight(), no set left, each night is as good", contradicting().bestNight(), 1);
        CHECK.same("bestNight() with 40 nights", Make.fullThatAgrees().bestNight(), 2);
    }

    private static void bestWithoutThings() {
        CHECK.sentence("promise 31", "-1 without things");
        CHECK.same("bestNight() without anything", new SmudgedStar().bestNight(), -1);
        CHECK.same("bestNight() without things", Make.withAstronomers(0, 0, 5).bestNight(), -1);
        CHECK.same("bestNight() of one", Make.withThings(1).bestNight(), 1);
    }

    private static void bestNightChangesNothing() {
        CHECK.sentence("promise 31", "(nothing is changed).");
        CHECK.onlyAnswers("bestNight() without anything", SmudgedStar::new, -1, SmudgedStar::bestNight);
        CHECK.onlyAnswers("bestNight() of two", Make::small, 1, SmudgedStar::bestNight);
        CHECK.onlyAnswers("bestNight() of 40", Make::fullThatAgrees, 2, SmudgedStar::bestNight);
    }

    private static void howManyWouldChange() {
        CHECK.sentence("promise 32", "Returns how many astronomers would blame other things, if this night was written "
                + "down");
        CHECK.same("wouldChange(255, true) without astronomers", Make.withThings(8).wouldChange(255, true), 0);
        for (int stubborn = 0; stubborn <= 8; stubborn++) {
            SmudgedStar star = Make.withStubborn(8, stubborn);
            CHECK.same("wouldChange(128, true), " + stubborn + " stubborn", star.wouldChange(128, true), 8 - stubborn);
            CHECK.same("wouldChange(255, true), " + stubborn + " stubborn", star.wouldChange(255, true), 8 - stubborn);
            CHECK.same("wouldChange(255, false), which all explain", star.wouldChange(255, false), 0);
        }
        SmudgedStar last = Make.withAstronomers(8, 0, 5);
        Make.writeDownOften(last, 39, 1, false);
        last.blame(0, 1);
        CHECK.same("wouldChange(1, false) with 39 nights", last.wouldChange(1, false), 1);
        CHECK.same("wouldChange(2, true) with 39 nights", last.wouldChange(2, true), 1);
    }

    private static void noneWouldChange() {
        CHECK.sentence("promise 32", "Returns how many astronomers would blame other things, if this night was written "
                + "down");
        SmudgedStar star = Make.withAstronomers(8, 0, 0, 0, 0, 0, 0, 0, 0);
        Make.writeDown(star, 127, 0);
        CHECK.same("wouldChange(127, true), which contradicts", star.wouldChange(127, true), 0);
        CHECK.same("wouldChange(255, true), which a set explains", star.wouldChange(255, true), 8);
        star.writeDown(127, true);
        CHECK.same("wouldChange(255, true), nights contradict", star.wouldChange(255, true), 0);
        CHECK.same("writeDown(255, true), nights contradict", star.writeDown(255, true), 0);
    }

    private static void oneSetAloneIsTakenUp() {
        CHECK.sentence("promise 32", "Returns how many astronomers would blame other things, if this night was written "
                + "down");
        SmudgedStar all = Make.withNights(8, 1, 1, 2, 1, 4, 1, 8, 1, 16, 1, 32, 1, 64, 1);
        all.addAstronomer(0);
        CHECK.same("wouldChange(128, true), to the set of all things", all.wouldChange(128, true), 1);
        SmudgedStar none = Make.withAstronomers(8, 0);
        none.blame(0, 255);
        CHECK.same("wouldChange(255, false), to the empty set", none.wouldChange(255, false), 1);
    }

    private static void wouldChangeChangesNothing() {
        CHECK.sentence("promise 32", "(nothing is changed).");
        Supplier<SmudgedStar> givingUp = () -> Make.withAstronomers(8, 0, 1, 0, 5, 0, 0, 0, 3);
        CHECK.onlyAnswers("wouldChange(255, true) of 8", givingUp, 5, star -> star.wouldChange(255, true));
        CHECK.onlyAnswers("wouldChange(255, false) of 8", givingUp, 0, star -> star.wouldChange(255, false));
        CHECK.onlyAnswers("wouldChange(4, true) of two", Make::small, 0, star -> star.wouldChange(4, true));
        CHECK.onlyAnswers("wouldChange(1, true) with 39 nights", () -> Make.withSameNights(1, 39, 1, true), 0,
                star -> star.wouldChange(1, true));
    }

    private static void wouldChangeNeedsASet() {
        CHECK.sentence("promise 32", "Throws `IllegalArgumentException` if things is not 1 to the set of all things");
        CHECK.takesSetsFrom(1, "wouldChange with a smudge", (star, set) -> star.wouldChange(set, true));
        CHECK.takesSetsFrom(1, "wouldChange without one", (star, set) -> star.wouldChange(set, false));
        CHECK.takesFromTo(1, 7, "wouldChange behind two nights", Make::small, ARGUMENT,
                (star, set) -> star.wouldChange(set, true));
    }

    private static void wouldChangeNeedsRoom() {
        CHECK.sentence("promise 32", "Throws `IllegalStateException` if there are 40 nights");
        CHECK.raises("wouldChange(1, true) with 39", Make.withSameNights(8, 39, 1, true), null,
                star -> star.wouldChange(1, true));
        for (int set : new int[] {1, 128, 255}) {
            CHECK.refuses("wouldChange(" + set + ", true)", Make::full, STATE, s -> s.wouldChange(set, true));
            CHECK.refuses("wouldChange(" + set + ", false)", Make::full, STATE, s -> s.wouldChange(set, false));
            CHECK.refuses("wouldChange(" + set + ", true), 40 agree", Make::fullThatAgrees, STATE,
                    s -> s.wouldChange(set, true));
        }
        SmudgedStar struck = Make.fullThatAgrees();
        struck.strike(39);
        CHECK.raises("wouldChange(1, true), one of 40 struck", struck, null, star -> star.wouldChange(1, true));
    }

    private static void meanOfThings() {
        CHECK.sentence("promise 33", "Returns the mean of how many things astronomers blame;");
        CHECK.same("meanBlame() of one for the empty set", Make.withBlame(8, 0).meanBlame(), 0.0);
        CHECK.same("meanBlame() of one for all things", Make.withBlame(8, 255).meanBlame(), 8.0);
        CHECK.same("meanBlame() of 8 for all things",
                Make.withBlame(8, 255, 255, 255, 255, 255, 255, 255, 255).meanBlame(), 8.0);
        CHECK.same("meanBlame() of 8, one thing", Make.withBlame(8, 0, 0, 0, 0, 0, 0, 0, 128).meanBlame(), 0.125);
        CHECK.same("meanBlame() of 3, one thing", Make.withBlame(8, 0, 1, 0).meanBlame(), 1.0 / 3.0);
        CHECK.same("meanBlame() of 7, all but one", Make.withBlame(1, 1, 1, 1, 1, 1, 1, 0).meanBlame(), 6.0 / 7.0);
        CHECK.same("meanBlame() without things", Make.withBlame(0, 0, 0).meanBlame(), 0.0);
    }

    private static void meanWithoutAstronomers() {
        CHECK.sentence("promise 33", "0 without any.");
        CHECK.same("meanBlame() without anything", new SmudgedStar().meanBlame(), 0.0);
        CHECK.same("meanBlame() without astronomers", Make.withSameNights(8, 40, 255, true).meanBlame(), 0.0);
    }
}
