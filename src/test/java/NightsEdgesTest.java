/** Promises 13 to 17, nights: each sentence that names a boundary case, with a test of its own. */
public final class NightsEdgesTest {
    private static final Check CHECK = new Check();

    public static void main(String[] args) {
        howManyNights();
        howManySmudges();
        whichThingsWereUsed();
        usedInNeedsANight();
        whetherThereIsASmudge();
        isSmudgedNeedsANight();
        nightsAgree();
        nightsContradict();
        CHECK.end();
    }

    private static void howManyNights() {
        CHECK.sentence("promise 13", "Returns how many nights there are.");
        CHECK.same("nights() without anything", new SmudgedStar().nights(), 0);
        SmudgedStar star = Make.withThings(1);
        for (int count = 1; count <= 40; count++) {
            star.writeDown(1, false);
            CHECK.same("nights()", star.nights(), count);
        }
        for (int count = 39; count >= 0; count--) {
            star.strike(count);
            CHECK.same("nights()", star.nights(), count);
        }
    }

    private static void howManySmudges() {
        CHECK.sentence("promise 14", "Returns how many of them have a smudge.");
        CHECK.same("smudges() without anything", new SmudgedStar().smudges(), 0);
        CHECK.same("smudges() of 40 without one", Make.withSameNights(8, 40, 255, false).smudges(), 0);
        SmudgedStar star = Make.withThings(1);
        for (int count = 1; count <= 40; count++) {
            star.writeDown(1, true);
            CHECK.same("smudges()", star.smudges(), count);
        }
        star.strike(39);
        star.writeDown(1, false);
        CHECK.same("smudges(), the last of 40 without", star.smudges(), 39);
        star.strike(39);
        CHECK.same("smudges(), a night without one struck", star.smudges(), 39);
        star.strike(0);
        CHECK.same("smudges(), a night with one struck", star.smudges(), 38);
    }

    private static void whichThingsWereUsed() {
        CHECK.sentence("promise 15", "Returns the set of things that were used in it.");
        SmudgedStar star = Make.withNights(8, 1, 1);
        Make.writeDownOften(star, 38, 128, false);
        star.writeDown(255, true);
        CHECK.same("usedIn(0), the first and the least set", star.usedIn(0), 1);
        CHECK.same("usedIn(38)", star.usedIn(38), 128);
        CHECK.same("usedIn(39), the last of 40 and all things", star.usedIn(39), 255);
        SmudgedStar late = Make.withNights(1, 1, 1);
        late.addThing();
        CHECK.same("usedIn(0), all things of then", late.usedIn(0), 1);
    }

    private static void usedInNeedsANight() {
        CHECK.sentence("promise 15", "Throws `IndexOutOfBoundsException` if there is no such night");
        takesNights("usedIn", SmudgedStar::usedIn);
    }

    private static void whetherThereIsASmudge() {
        CHECK.sentence("promise 16", "Returns whether it has a smudge.");
        for (boolean first : new boolean[] {true, false}) {
            SmudgedStar star = Make.withThings(8);
            star.writeDown(255, first);
            Make.writeDownOften(star, 38, 255, !first);
            star.writeDown(255, first);
            CHECK.same("isSmudged(0), the first", star.isSmudged(0), first);
            CHECK.same("isSmudged(1)", star.isSmudged(1), !first);
            CHECK.same("isSmudged(38)", star.isSmudged(38), !first);
            CHECK.same("isSmudged(39), the last of 40", star.isSmudged(39), first);
        }
    }

    private static void isSmudgedNeedsANight() {
        CHECK.sentence("promise 16", "Throws `IndexOutOfBoundsException` if there is no such night");
        takesNights("isSmudged", SmudgedStar::isSmudged);
    }

    private static void nightsAgree() {
        CHECK.sentence("promise 17", "Returns whether the nights agree.");
        CHECK.same("agree() without anything", new SmudgedStar().agree(), true);
        CHECK.same("agree() with 8 things and no nights", Make.withThings(8).agree(), true);
        CHECK.same("agree(), 40 smudges", Make.withSameNights(1, 40, 1, true).agree(), true);
        CHECK.same("agree(), 40 without one", Make.withSameNights(1, 40, 1, false).agree(), true);
        CHECK.same("agree(), 40 of both", Make.fullThatAgrees().agree(), true);
    }

    private static void nightsContradict() {
        CHECK.sentence("promise 17", "Returns whether the nights agree.");
        SmudgedStar star = Make.withSameNights(8, 39, 128, true);
        star.writeDown(255, false);
        CHECK.same("agree(), one of 40 against all", star.agree(), false);
        star.addAstronomer(0);
        CHECK.same("agree() with an astronomer", star.agree(), false);
        star.strike(39);
        CHECK.same("agree(), that one struck", star.agree(), true);
        SmudgedStar all = Make.withNights(3, 1, 0, 2, 0, 4, 0, 7, 1);
        CHECK.same("agree(), each thing of a smudge cleared", all.agree(), false);
        all.addThing();
        CHECK.same("agree(), a thing more that was not used", all.agree(), false);
    }

    private static void takesNights(String name, Check.NumberCall call) {
        CHECK.takesNumbersBelow(0, name + " without anything", SmudgedStar::new, call);
        CHECK.takesNumbersBelow(0, name + " without nights", () -> Make.withAstronomers(8, 1, 2), call);
        CHECK.takesNumbersBelow(1, name + " of one", () -> Make.withNights(8, 1, 1), call);
        CHECK.takesNumbersBelow(2, name + " of two", Make::small, call);
        CHECK.takesNumbersBelow(39, name + " of 39", () -> Make.withSameNights(8, 39, 255, true), call);
        CHECK.takesNumbersBelow(40, name + " of 40", Make::full, call);
        CHECK.takesNumbersBelow(39, name + " of 39 of 40", NightsEdgesTest::fullButOne, call);
        CHECK.takesNumbersBelow(0, name + " of one struck", NightsEdgesTest::oneStruck, call);
    }

    private static SmudgedStar fullButOne() {
        SmudgedStar star = Make.full();
        star.strike(0);
        return star;
    }

    private static SmudgedStar oneStruck() {
        SmudgedStar star = Make.withNights(8, 1, 1);
        star.strike(0);
        return star;
    }
}
