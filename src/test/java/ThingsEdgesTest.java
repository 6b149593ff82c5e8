/** Promises 7 to 12, things: each sentence that names a boundary case, with a test of its own. */
public final class ThingsEdgesTest {
    private static final Check CHECK = new Check();

    public static void main(String[] args) {
        howManyThings();
        inHowManyNights();
        nightsWithNeedsAThing();
        inHowManySmudges();
        smudgesWithNeedsAThing();
        whetherCleared();
        isClearedNeedsAThing();
        whetherProved();
        isProvedNeedsAThing();
        howManySetsWithIt();
        noSetWithIt();
        setsWithNeedsAThing();
        CHECK.end();
    }

    private static void howManyThings() {
        CHECK.sentence("promise 7", "Returns how many things there are.");
        for (int things = 0; things <= 8; things++) {
            CHECK.same("things()", Make.withThings(things).things(), things);
        }
        CHECK.same("things() with all of all", Make.full().things(), 8);
        CHECK.onlyAnswers("things() without any", SmudgedStar::new, 0, SmudgedStar::things);
    }

    private static void inHowManyNights() {
        CHECK.sentence("promise 8", "Returns in how many nights it was used.");
        CHECK.same("nightsWith(7) without nights", Make.withThings(8).nightsWith(7), 0);
        for (int thing : new int[] {0, 7}) {
            SmudgedStar star = Make.withThings(8);
            for (int count = 1; count <= 40; count++) {
                star.writeDown(1 << thing, count % 2 == 0);
                CHECK.same("nightsWith(" + thing + ")", star.nightsWith(thing), count);
            }
            CHECK.same("nightsWith(3), in none of 40", star.nightsWith(3), 0);
            star.strike(39);
            CHECK.same("nightsWith(" + thing + "), the last struck", star.nightsWith(thing), 39);
        }
        SmudgedStar all = Make.withSameNights(8, 40, 255, false);
        for (int thing = 0; thing < 8; thing++) {
            CHECK.same("nightsWith(" + thing + "), all used in 40", all.nightsWith(thing), 40);
        }
    }

    private static void nightsWithNeedsAThing() {
        CHECK.sentence("promise 8", "Throws `IndexOutOfBoundsException` if there is no such thing");
        takesThings("nightsWith", SmudgedStar::nightsWith);
    }

    private static void inHowManySmudges() {
        CHECK.sentence("promise 9", "Returns in how many nights with a smudge it was used.");
        CHECK.same("smudgesWith(7) without nights", Make.withThings(8).smudgesWith(7), 0);
        CHECK.same("smudgesWith(7), 40 without a smudge", Make.withSameNights(8, 40, 128, false).smudgesWith(7), 0);
        CHECK.same("smudgesWith(7), 40 smudges without it", Make.withSameNights(8, 40, 127, true).smudgesWith(7), 0);
        CHECK.same("smudgesWith(7), 40 smudges", Make.withSameNights(8, 40, 255, true).smudgesWith(7), 40);
        SmudgedStar star = Make.withSameNights(8, 39, 1, true);
        star.writeDown(1, false);
        CHECK.same("smudgesWith(0), the last of 40 without", star.smudgesWith(0), 39);
        star.strike(39);
        star.writeDown(1, true);
        CHECK.same("smudgesWith(0), the last of 40 with", star.smudgesWith(0), 40);
        star.strike(0);
        CHECK.same("smudgesWith(0), one of 40 struck", star.smudgesWith(0), 39);
    }

    private static void smudgesWithNeedsAThing() {
        CHECK.sentence("promise 9", "Throws `IndexOutOfBoundsException` if there is no such thing");
        takesThings("smudgesWith", SmudgedStar::smudgesWith);
    }

    private static void whetherCleared() {
        CHECK.sentence("promise 10", "Returns whether it is cleared.");
        SmudgedStar all = Make.withNights(8, 255, 0);
        SmudgedStar none = Make.withNights(8, 255, 1);
        for (int thing = 0; thing < 8; thing++) {
            CHECK.same("isCleared(" + thing + "), all are", all.isCleared(thing), true);
            CHECK.same("isCleared(" + thing + "), none is", none.isCleared(thing), false);
        }
        all.strike(0);
        CHECK.same("isCleared(7), the only night struck", all.isCleared(7), false);
    }

    private static void isClearedNeedsAThing() {
        CHECK.sentence("promise 10", "Throws `IndexOutOfBoundsException` if there is no such thing");
        takesThings("isCleared", SmudgedStar::isCleared);
    }

    private static void whetherProved() {
        CHECK.sentence("promise 11", "Returns whether it is proved.");
        SmudgedStar each = Make.withNights(8, 1, 1, 2, 1, 4, 1, 8, 1, 16, 1, 32, 1, 64, 1, 128, 1);
        SmudgedStar none = Make.withNights(8, 255, 1);
        for (int thing = 0; thing < 8; thing++) {
            CHECK.same("isProved(" + thing + "), each is", each.isProved(thing), true);
            CHECK.same("isProved(" + thing + "), none is", none.isProved(thing), false);
        }
        none.writeDown(254, false);
        CHECK.same("isProved(0), all 7 others cleared", none.isProved(0), true);
        CHECK.same("isProved(1), cleared, but the thing 0 is not", none.isProved(1), false);
        none.strike(0);
        CHECK.same("isProved(0), the smudge struck", none.isProved(0), false);
    }

    private static void isProvedNeedsAThing() {
        CHECK.sentence("promise 11", "Throws `IndexOutOfBoundsException` if there is no such thing");
        takesThings("isProved", SmudgedStar::isProved);
    }

    private static void howManySetsWithIt() {
        CHECK.sentence("promise 12", "Returns how many sets with it explain all nights.");
        for (int things = 1; things <= 8; things++) {
            SmudgedStar star = Make.withThings(things);
            CHECK.same("setsWith(0) of " + things + " without nights", star.setsWith(0), 1 << (things - 1));
            CHECK.same("setsWith() of the last of " + things, star.setsWith(things - 1), 1 << (things - 1));
        }
        SmudgedStar all = Make.withNights(8, 1, 1, 2, 1, 4, 1, 8, 1, 16, 1, 32, 1, 64, 1, 128, 1);
        CHECK.same("setsWith(0), the set of all things alone", all.setsWith(0), 1);
        CHECK.same("setsWith(7), the set of all things alone", all.setsWith(7), 1);
    }

    private static void noSetWithIt() {
        CHECK.sentence("promise 12", "Returns how many sets with it explain all nights.");
        CHECK.same("setsWith(0), the empty set alone", Make.withNights(8, 255, 0).setsWith(0), 0);
        SmudgedStar contradicting = Make.withNights(8, 1, 0, 1, 1);
        CHECK.same("setsWith(0), no set at all", contradicting.setsWith(0), 0);
        CHECK.same("setsWith(7), no set at all", contradicting.setsWith(7), 0);
        contradicting.strike(0);
        CHECK.same("setsWith(7), sets again", contradicting.setsWith(7), 64);
    }

    private static void setsWithNeedsAThing() {
        CHECK.sentence("promise 12", "Throws `IndexOutOfBoundsException` if there is no such thing");
        takesThings("setsWith", SmudgedStar::setsWith);
    }

    private static void takesThings(String name, Check.NumberCall call) {
        CHECK.takesNumbersBelow(0, name + " without anything", SmudgedStar::new, call);
        CHECK.takesNumbersBelow(0, name + " without things", () -> Make.withAstronomers(0, 1, 2), call);
        for (int things = 1; things <= 8; things++) {
            int count = things;
            CHECK.takesNumbersBelow(count, name + " with " + count, () -> Make.withThings(count), call);
        }
        CHECK.takesNumbersBelow(3, name + " with 3 things and 2 nights", Make::small, call);
        CHECK.takesNumbersBelow(8, name + " with all of all", Make::full, call);
    }
}
