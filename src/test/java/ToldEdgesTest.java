/** Promises 1 to 6, what is told: each sentence that names a boundary case, with a test of its own. */
public final class ToldEdgesTest {
    private static final Class<IllegalStateException> STATE = IllegalStateException.class;
    private static final Class<IllegalArgumentException> ARGUMENT = IllegalArgumentException.class;
    private static final Check CHECK = new Check();

    public static void main(String[] args) {
        nothingAtFirst();
        objectsStandApart();
        numberOfAThing();
        aThingUsedInNoNight();
        eightThings();
        stubbornnessOfANewOne();
        numberOfAnAstronomer();
        stubbornnessZeroToFive();
        eightAstronomers();
        stubbornnessOfTheBeginning();
        setBlamedFromNowOn();
        setBefore();
        blameNeedsAnAstronomer();
        blameNeedsASet();
        aNightIsWrittenBehindTheOthers();
        setThatWasUsed();
        whetherThereWasASmudge();
        howManyBlameOtherThings();
        noneBlamesOtherThings();
        writeDownNeedsASet();
        fortyNights();
        nightsBehindMoveUp();
        theOnlyNightStruck();
        astronomersStay();
        howManyNightsThen();
        strikeNeedsANight();
        CHECK.end();
    }

    private static void nothingAtFirst() {
        CHECK.sentence("promise 1", "Creates a quarrel without things, nights and astronomers.");
        SmudgedStar star = new SmudgedStar();
        CHECK.same("things()", star.things(), 0);
        CHECK.same("nights()", star.nights(), 0);
        CHECK.same("smudges()", star.smudges(), 0);
        CHECK.same("agree()", star.agree(), true);
        CHECK.same("astronomers()", star.astronomers(), 0);
        CHECK.same("vote()", star.vote(), 0);
        CHECK.same("changesOfMind()", star.changesOfMind(), 0);
        CHECK.same("explainsAll(0)", star.explainsAll(0), true);
        CHECK.same("explanations(), the empty set", star.explanations(), 1);
        CHECK.same("simplest()", star.simplest(), 0);
        CHECK.same("surelyToBlame()", star.surelyToBlame(), 0);
        CHECK.same("nightsToDoubt()", star.nightsToDoubt(), 0);
        CHECK.same("bestNight()", star.bestNight(), -1);
        CHECK.same("meanBlame()", star.meanBlame(), 0.0);
    }

    private static void objectsStandApart() {
        CHECK.sentence("promise 1", "Creates a quarrel without things, nights and astronomers.");
        String before = Answers.of(new SmudgedStar());
        Make.full();
        CHECK.same("a new object behind a full one", Answers.of(new SmudgedStar()), before);
    }

    private static void numberOfAThing() {
        CHECK.sentence("promise 2", "Returns the number of a new thing, which was used in no night so far.");
        SmudgedStar star = new SmudgedStar();
        for (int thing = 0; thing < 8; thing++) {
            CHECK.same("addThing()", star.addThing(), thing);
            CHECK.same("things()", star.things(), thing + 1);
        }
    }

    private static void aThingUsedInNoNight() {
        CHECK.sentence("promise 2", "which was used in no night so far.");
        SmudgedStar star = Make.withSameNights(1, 39, 1, true);
        star.writeDown(1, false);
        for (int thing = 1; thing < 8; thing++) {
            CHECK.same("addThing() with 40 nights", star.addThing(), thing);
            CHECK.same("nightsWith(" + thing + ")", star.nightsWith(thing), 0);
            CHECK.same("smudgesWith(" + thing + ")", star.smudgesWith(thing), 0);
            CHECK.same("isCleared(" + thing + ")", star.isCleared(thing), false);
            CHECK.same("isProved(" + thing + ")", star.isProved(thing), false);
        }
        CHECK.same("nightsWith(0)", star.nightsWith(0), 40);
        star.strike(39);
        CHECK.same("explanations(), 7 things were never used", star.explanations(), 128);
        CHECK.same("setsWith(7)", star.setsWith(7), 64);
        CHECK.same("surelyToBlame()", star.surelyToBlame(), 1);
    }

    private static void eightThings() {
        CHECK.sentence("promise 2", "Throws `IllegalStateException` if there are 8");
        CHECK.raises("addThing() with 7", Make.withThings(7), null, SmudgedStar::addThing);
        CHECK.refuses("addThing() with 8", () -> Make.withThings(8), STATE, SmudgedStar::addThing);
        CHECK.refuses("addThing() with 8 of all", Make::full, STATE, SmudgedStar::addThing);
        CHECK.refuses("addThing() with 8 used by few nights", Make::fullThatAgrees, STATE, SmudgedStar::addThing);
    }

    private static void stubbornnessOfANewOne() {
        CHECK.sentence("promise 3", "`stubbornness`: the stubbornness of a new astronomer");
        SmudgedStar star = Make.withAstronomers(1, 0, 5);
        CHECK.same("stubbornnessOf(0), the least", star.stubbornnessOf(0), 0);
        CHECK.same("stubbornnessOf(1), the most", star.stubbornnessOf(1), 5);
        star.writeDown(1, true);
        star.addAstronomer(5);
        CHECK.same("stubbornnessOf(2), new behind a night that this one does not explain", star.stubbornnessOf(2), 5);
    }

    private static void numberOfAnAstronomer() {
        CHECK.sentence("promise 3", "Returns the number of this one.");
        SmudgedStar star = Make.withThings(0);
        for (int astronomer = 0; astronomer < 8; astronomer++) {
            CHECK.same("addAstronomer(3)", star.addAstronomer(3), astronomer);
            CHECK.same("astronomers()", star.astronomers(), astronomer + 1);
        }
    }

    private static void stubbornnessZeroToFive() {
        CHECK.sentence("promise 3", "Throws `IllegalArgumentException` if stubbornness is not 0 to 5");
        CHECK.takesFromTo(0, 5, "addAstronomer", SmudgedStar::new, ARGUMENT, SmudgedStar::addAstronomer);
        CHECK.takesFromTo(0, 5, "addAstronomer beside two", Make::small, ARGUMENT, SmudgedStar::addAstronomer);
    }

    private static void eightAstronomers() {
        CHECK.sentence("promise 3", "Throws `IllegalStateException` if there are 8");
        SmudgedStar seven = Make.withAstronomers(8, 0, 1, 2, 3, 4, 5, 0);
        CHECK.raises("addAstronomer(5) with 7", seven, null, star -> star.addAstronomer(5));
        for (int stubbornness = 0; stubbornness <= 5; stubbornness++) {
            int told = stubbornness;
            CHECK.refuses("addAstronomer(" + told + ") with 8", Make::full, STATE, star -> star.addAstronomer(told));
            CHECK.refuses("addAstronomer(" + told + ") with 8 and no things",
                    () -> Make.withAstronomers(0, 5, 5, 5, 5, 5, 5, 5, 5), STATE, star -> star.addAstronomer(told));
        }
    }

    private static void stubbornnessOfTheBeginning() {
        CHECK.sentence("promise 4", "Lets an astronomer blame other things; the stubbornness is that of the beginning "
                + "then.");
        for (int stubbornness = 0; stubbornness <= 5; stubbornness++) {
            for (int set : new int[] {0, 1, 255}) {
                SmudgedStar star = Make.withAstronomers(8, 5, stubbornness);
                Make.writeDownOften(star, stubbornness, 2, true);
                CHECK.same("stubbornnessOf(1) before", star.stubbornnessOf(1), 0);
                star.blame(1, set);
                CHECK.same("stubbornnessOf(1) after blame(1, " + set + ")", star.stubbornnessOf(1), stubbornness);
                CHECK.same("stubbornnessOf(0), of whom nothing is told", star.stubbornnessOf(0), 5 - stubbornness);
            }
        }
    }

    private static void setBlamedFromNowOn() {
        CHECK.sentence("promise 4", "`things`: the set of things that this one blames from now on");
        SmudgedStar star = Make.withAstronomers(8, 0, 0, 0, 0, 0, 0, 0, 0);
        star.blame(0, 255);
        star.blame(7, 128);
        CHECK.same("blamedBy(0), all things", star.blamedBy(0), 255);
        CHECK.same("blamedBy(7)", star.blamedBy(7), 128);
        CHECK.same("blamedBy(1), of whom nothing is told", star.blamedBy(1), 0);
        star.blame(0, 0);
        CHECK.same("blamedBy(0), the empty set", star.blamedBy(0), 0);
        CHECK.same("changesOfMind(), as no night did it", star.changesOfMind(), 0);
    }

    private static void setBefore() {
        CHECK.sentence("promise 4", "Returns the set before.");
        SmudgedStar star = Make.withAstronomers(8, 0);
        CHECK.same("blame(0, 255), the empty set before", star.blame(0, 255), 0);
        CHECK.same("blame(0, 255), the same", star.blame(0, 255), 255);
        CHECK.same("blame(0, 0), all things before", star.blame(0, 0), 255);
        CHECK.same("blame(0, 0), the same", star.blame(0, 0), 0);
        star.writeDown(128, true);
        CHECK.same("blame(0, 1), that of a night before", star.blame(0, 1), 128);
    }

    private static void blameNeedsAnAstronomer() {
        CHECK.sentence("promise 4", "Throws `IndexOutOfBoundsException` if there is no such astronomer");
        Check.NumberCall blame = (star, astronomer) -> star.blame(astronomer, 0);
        CHECK.takesNumbersBelow(0, "blame of none", () -> Make.withThings(8), blame);
        CHECK.takesNumbersBelow(2, "blame of two", Make::small, blame);
        CHECK.takesNumbersBelow(8, "blame of 8", Make::full, blame);
    }

    private static void blameNeedsASet() {
        CHECK.sentence("promise 4", "Throws `IllegalArgumentException` if things is not 0 to the set of all things");
        CHECK.takesSetsFrom(0, "blame", (star, set) -> star.blame(0, set));
        CHECK.takesFromTo(0, 255, "blame of the last of 8", Make::fullThatAgrees, ARGUMENT,
                (star, set) -> star.blame(7, set));
    }

    private static void aNightIsWrittenBehindTheOthers() {
        CHECK.sentence("promise 5", "Writes down a night.");
        SmudgedStar star = Make.withThings(8);
        for (int night = 0; night < 40; night++) {
            star.writeDown(night + 1, night % 2 == 1);
            CHECK.same("nights()", star.nights(), night + 1);
            CHECK.same("usedIn() of the last", star.usedIn(night), night + 1);
            CHECK.same("isSmudged() of the last", star.isSmudged(night), night % 2 == 1);
            CHECK.same("usedIn() of the first", star.usedIn(0), 1);
        }
    }

    private static void setThatWasUsed() {
        CHECK.sentence("promise 5", "`things`: the set of things that were used");
        for (int things = 1; things <= 8; things++) {
            int all = (1 << things) - 1;
            SmudgedStar star = Make.withNights(things, 1, 0, all, 0);
            CHECK.same("usedIn(0), one thing", star.usedIn(0), 1);
            CHECK.same("usedIn(1), all things", star.usedIn(1), all);
            CHECK.same("nightsWith() of the last thing", star.nightsWith(things - 1), things == 1 ? 2 : 1);
        }
    }

    private static void whetherThereWasASmudge() {
        CHECK.sentence("promise 5", "`smudged`: whether there was a smudge");
        SmudgedStar smudge = Make.withSameNights(8, 40, 255, true);
        SmudgedStar none = Make.withSameNights(8, 40, 255, false);
        CHECK.same("smudges() of 40", smudge.smudges(), 40);
        CHECK.same("smudges() of none", none.smudges(), 0);
        CHECK.same("explanations(), a smudge", smudge.explanations(), 255);
        CHECK.same("explanations(), none", none.explanations(), 1);
    }

    private static void howManyBlameOtherThings() {
        CHECK.sentence("promise 5", "Returns how many astronomers blame other things by it.");
        CHECK.same("writeDown() without astronomers", Make.withThings(8).writeDown(255, true), 0);
        SmudgedStar all = Make.withAstronomers(8, 0, 0, 0, 0, 0, 0, 0, 0);
        CHECK.same("writeDown() of 8 that give up", all.writeDown(255, true), 8);
        CHECK.same("writeDown() of 8 that explain it", all.writeDown(1, true), 0);
        for (int stubborn = 0; stubborn <= 8; stubborn++) {
            SmudgedStar some = Make.withStubborn(1, stubborn);
            CHECK.same("writeDown() with " + stubborn + " stubborn", some.writeDown(1, true), 8 - stubborn);
            CHECK.same("writeDown() again", some.writeDown(1, true), stubborn);
        }
    }

    private static void noneBlamesOtherThings() {
        CHECK.sentence("promise 5", "Returns how many astronomers blame other things by it.");
        SmudgedStar star = Make.withAstronomers(8, 0, 0, 0, 0, 0, 0, 0, 0);
        CHECK.same("writeDown(1, false), which all explain", star.writeDown(1, false), 0);
        CHECK.same("writeDown(1, true), which no set explains then", star.writeDown(1, true), 0);
    }

    private static void writeDownNeedsASet() {
        CHECK.sentence("promise 5", "Throws `IllegalArgumentException` if things is not 1 to the set of all things");
        CHECK.takesSetsFrom(1, "writeDown with a smudge", (star, set) -> star.writeDown(set, true));
        CHECK.takesSetsFrom(1, "writeDown without one", (star, set) -> star.writeDown(set, false));
        CHECK.takesFromTo(1, 7, "writeDown behind two nights", Make::small, ARGUMENT,
                (star, set) -> star.writeDown(set, true));
    }

    private static void fortyNights() {
        CHECK.sentence("promise 5", "Throws `IllegalStateException` if there are 40");
        SmudgedStar last = Make.withSameNights(8, 39, 1, true);
        CHECK.raises("writeDown(255, true) with 39", last, null, star -> star.writeDown(255, true));
        for (int set : new int[] {1, 128, 255}) {
            CHECK.refuses("writeDown(" + set + ", true) with 40", Make::full, STATE, s -> s.writeDown(set, true));
            CHECK.refuses("writeDown(" + set + ", false) with 40", Make::full, STATE, s -> s.writeDown(set, false));
            CHECK.refuses("writeDown(" + set + ", true) with 40 that agree", Make::fullThatAgrees, STATE,
                    s -> s.writeDown(set, true));
            CHECK.refuses("writeDown(" + set + ", false) with 40 that agree", Make::fullThatAgrees, STATE,
                    s -> s.writeDown(set, false));
        }
        SmudgedStar struck = Make.full();
        struck.strike(0);
        CHECK.raises("writeDown(255, true) with 39 again", struck, null, star -> star.writeDown(255, true));
        CHECK.raises("writeDown(255, true) with 40 again", struck, STATE, star -> star.writeDown(255, true));
    }

    private static void nightsBehindMoveUp() {
        CHECK.sentence("promise 6", "Strikes a night, as its plate was a wrong one; those behind it move up.");
        for (int gone : new int[] {0, 1, 20, 38, 39}) {
            SmudgedStar star = Make.withThings(8);
            for (int night = 0; night < 40; night++) {
                star.writeDown(night + 1, night % 2 == 0);
            }
            star.strike(gone);
            CHECK.same("nights()", star.nights(), 39);
            for (int night = 0; night < 39; night++) {
                int was = night < gone ? night : night + 1;
                CHECK.same("usedIn(" + night + "), " + gone + " struck", star.usedIn(night), was + 1);
                CHECK.same("isSmudged(" + night + "), " + gone + " struck", star.isSmudged(night), was % 2 == 0);
            }
        }
    }

    private static void theOnlyNightStruck() {
        CHECK.sentence("promise 6", "Strikes a night, as its plate was a wrong one;");
        SmudgedStar star = Make.withNights(8, 255, 0);
        CHECK.same("explanations() before", star.explanations(), 1);
        star.strike(0);
        CHECK.same("explanations(), the only night struck", star.explanations(), 256);
        CHECK.same("isCleared(0), the only night struck", star.isCleared(0), false);
        star.writeDown(128, true);
        CHECK.same("usedIn(0), written down then", star.usedIn(0), 128);
        CHECK.same("isSmudged(0), written down then", star.isSmudged(0), true);
    }

    private static void astronomersStay() {
        CHECK.sentence("promise 6", "Astronomers stay as they are.");
        SmudgedStar star = Make.withAstronomers(8, 0, 1, 5);
        star.blame(1, 2);
        Make.writeDownOften(star, 2, 128, true);
        for (int left = 2; left >= 0; left--) {
            CHECK.same("blamedBy(0) with " + left, star.blamedBy(0), 128);
            CHECK.same("blamedBy(1) with " + left, star.blamedBy(1), 128);
            CHECK.same("blamedBy(2) with " + left, star.blamedBy(2), 0);
            CHECK.same("stubbornnessOf(0) with " + left, star.stubbornnessOf(0), 0);
            CHECK.same("stubbornnessOf(1) with " + left, star.stubbornnessOf(1), 1);
            CHECK.same("stubbornnessOf(2) with " + left, star.stubbornnessOf(2), 3);
            CHECK.same("changesOfMind() with " + left, star.changesOfMind(), 2);
            CHECK.same("astronomers() with " + left, star.astronomers(), 3);
            if (left > 0) {
                star.strike(0);
            }
        }
    }

    private static void howManyNightsThen() {
        CHECK.sentence("promise 6", "Returns how many nights there are then.");
        SmudgedStar star = Make.full();
        for (int left = 39; left >= 0; left--) {
            int night = left % 2 == 0 ? 0 : left;
            CHECK.same("strike(" + night + ")", star.strike(night), left);
            CHECK.same("nights()", star.nights(), left);
        }
    }

    private static void strikeNeedsANight() {
        CHECK.sentence("promise 6", "Throws `IndexOutOfBoundsException` if there is no such night");
        CHECK.takesNumbersBelow(0, "strike of none", () -> Make.withThings(8), SmudgedStar::strike);
        CHECK.takesNumbersBelow(1, "strike of one", () -> Make.withNights(1, 1, 1), SmudgedStar::strike);
        CHECK.takesNumbersBelow(2, "strike of two", Make::small, SmudgedStar::strike);
        CHECK.takesNumbersBelow(40, "strike of 40", Make::full, SmudgedStar::strike);
        CHECK.takesNumbersBelow(39, "strike of 39 of 40", ToldEdgesTest::fullButOne, SmudgedStar::strike);
    }

    private static SmudgedStar fullButOne() {
        SmudgedStar star = Make.full();
        star.strike(39);
        return star;
    }
}
