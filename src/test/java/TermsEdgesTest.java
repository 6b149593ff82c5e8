/** Each sentence of "Terms" that names a boundary case, with a test of its own. */
public final class TermsEdgesTest {
    private static final Class<IllegalStateException> STATE = IllegalStateException.class;
    private static final Class<IllegalArgumentException> ARGUMENT = IllegalArgumentException.class;
    private static final Class<IndexOutOfBoundsException> INDEX = IndexOutOfBoundsException.class;
    private static final Check CHECK = new Check();

    public static void main(String[] args) {
        atMostEightThings();
        aSetIsToldAsANumber();
        atMostFortyNights();
        aNightHasThings();
        aSmudgeJustIfAThingWasUsed();
        eachNightIsExplained();
        anySetDoesWithoutNights();
        theEmptySet();
        cleared();
        proved();
        clearedAndProved();
        someSetExplainsAll();
        atMostEightAstronomers();
        blameAndStubbornnessAtFirst();
        stubbornnessZeroToFive();
        nightsBeforeGivingUp();
        oneStubbornnessLess();
        explainedNightsCostNothing();
        fewestThings();
        smallestNumber();
        emptySetAndAllThingsAreTakenUp();
        allNightsThen();
        stubbornnessOfTheBeginning();
        noSuchSet();
        moreThanHalf();
        aCallThatThrowsChangesNothing();
        theExceptionNamedFirst();
        CHECK.end();
    }

    private static void atMostEightThings() {
        CHECK.sentence("Terms", "Things. At most 8, numbered from 0");
        SmudgedStar star = new SmudgedStar();
        CHECK.raises("isCleared(0) without things", star, INDEX, s -> s.isCleared(0));
        for (int thing = 0; thing < 8; thing++) {
            CHECK.same("addThing()", star.addThing(), thing);
            CHECK.same("isCleared() of the newest", star.isCleared(thing), false);
        }
        CHECK.same("things()", star.things(), 8);
        CHECK.raises("a ninth addThing()", star, STATE, SmudgedStar::addThing);
        CHECK.raises("isCleared(8)", star, INDEX, s -> s.isCleared(8));
        CHECK.same("things() then", star.things(), 8);
    }

    private static void aSetIsToldAsANumber() {
        CHECK.sentence("Terms", "(so a set of them can be told as a number: 1 for the thing 0, 2 for the thing 1, "
                + "4 for the thing 2, and so on, added)");
        int[] numbers = {1, 2, 4, 8, 16, 32, 64, 128};
        for (int thing = 0; thing < 8; thing++) {
            SmudgedStar star = Make.withBlame(8, numbers[thing]);
            star.writeDown(numbers[thing], true);
            for (int other = 0; other < 8; other++) {
                int due = other == thing ? 1 : 0;
                CHECK.same("nightsWith(" + other + ") of " + numbers[thing], star.nightsWith(other), due);
                CHECK.same("votesFor(" + other + ") of " + numbers[thing], star.votesFor(other), due);
            }
        }
        SmudgedStar all = Make.withBlame(8, 255);
        all.writeDown(255, true);
        for (int thing = 0; thing < 8; thing++) {
            CHECK.same("nightsWith(" + thing + ") of 255", all.nightsWith(thing), 1);
            CHECK.same("votesFor(" + thing + ") of 255", all.votesFor(thing), 1);
        }
        CHECK.raises("writeDown(256, true), which holds no thing", all, ARGUMENT, s -> s.writeDown(256, true));
    }

    private static void atMostFortyNights() {
        CHECK.sentence("Terms", "Nights. At most 40, numbered likewise;");
        SmudgedStar star = Make.withThings(8);
        CHECK.raises("usedIn(0) without nights", star, INDEX, s -> s.usedIn(0));
        for (int night = 0; night < 40; night++) {
            star.writeDown(night + 1, true);
        }
        for (int night = 0; night < 40; night++) {
            CHECK.same("usedIn(" + night + ")", star.usedIn(night), night + 1);
        }
        CHECK.same("nights()", star.nights(), 40);
        CHECK.raises("a 41st writeDown", star, STATE, s -> s.writeDown(41, true));
        CHECK.raises("usedIn(40)", star, INDEX, s -> s.usedIn(40));
        CHECK.same("nights() then", star.nights(), 40);
    }

    private static void aNightHasThings() {
        CHECK.sentence("Terms", "each has a set of things that were used in it, which is not empty, and a smudge, "
                + "or none.");
        SmudgedStar star = Make.withThings(8);
        CHECK.raises("writeDown(0, true)", star, ARGUMENT, s -> s.writeDown(0, true));
        CHECK.raises("writeDown(0, false)", star, ARGUMENT, s -> s.writeDown(0, false));
        Make.writeDown(star, 1, 1, 1, 0, 255, 1, 255, 0);
        int[] used = {1, 1, 255, 255};
        for (int night = 0; night < 4; night++) {
            CHECK.same("usedIn(" + night + ")", star.usedIn(night), used[night]);
            CHECK.same("isSmudged(" + night + ")", star.isSmudged(night), night % 2 == 0);
        }
    }

    private static void aSmudgeJustIfAThingWasUsed() {
        CHECK.sentence("Terms", "A set of things explains a night, if there is a smudge just if at least one thing of "
                + "the set was used in it.");
        for (int used : new int[] {1, 128, 36, 127, 255}) {
            SmudgedStar smudge = Make.withSameNights(8, 1, used, true);
            SmudgedStar none = Make.withSameNights(8, 1, used, false);
            for (int set = 0; set <= Make.ALL; set++) {
                String what = "explainsAll(" + set + ") of a night with " + used;
                CHECK.same(what + " and a smudge", smudge.explainsAll(set), shareAThing(set, used));
                CHECK.same(what + " and none", none.explainsAll(set), !shareAThing(set, used));
            }
        }
    }

    private static boolean shareAThing(int set, int other) {
        for (int thing = 1; thing <= 128; thing += thing) {
            if (set / thing % 2 == 1 && other / thing % 2 == 1) {
                return true;
            }
        }
        return false;
    }

    private static void eachNightIsExplained() {
        CHECK.sentence("Terms", "It explains all, if it explains each night");
        for (int other : new int[] {0, 1, 20, 38, 39}) {
            SmudgedStar star = Make.withSameNights(2, other, 1, true);
            star.writeDown(2, true);
            Make.writeDownOften(star, 39 - other, 1, true);
            String but = " but for night " + other + " of 40";
            CHECK.same("explainsAll(1)" + but, star.explainsAll(1), false);
            CHECK.same("explainsAll(2)" + but, star.explainsAll(2), false);
            CHECK.same("explainsAll(3)", star.explainsAll(3), true);
            star.strike(other);
            CHECK.same("explainsAll(1), night " + other + " struck", star.explainsAll(1), true);
        }
    }

    private static void anySetDoesWithoutNights() {
        CHECK.sentence("Terms", "(so any set does without nights)");
        for (int things = 0; things <= 8; things++) {
            SmudgedStar star = Make.withThings(things);
            for (int set = 0; set < 1 << things; set++) {
                CHECK.same("explainsAll(" + set + ") of " + things, star.explainsAll(set), true);
            }
            CHECK.same("explanations() of " + things, star.explanations(), 1 << things);
        }
        SmudgedStar struck = Make.withNights(2, 3, 0);
        struck.strike(0);
        for (int set = 0; set < 4; set++) {
            CHECK.same("explainsAll(" + set + "), the only night struck", struck.explainsAll(set), true);
        }
    }

    private static void theEmptySet() {
        CHECK.sentence("Terms", "The empty set explains nights without a smudge alone.");
        SmudgedStar star = Make.withSameNights(8, 39, 255, false);
        CHECK.same("explainsAll(0), 39 without a smudge", star.explainsAll(0), true);
        star.writeDown(255, true);
        CHECK.same("explainsAll(0), one smudge of 40", star.explainsAll(0), false);
        star.strike(39);
        star.writeDown(1, false);
        CHECK.same("explainsAll(0), 40 without a smudge", star.explainsAll(0), true);
        CHECK.same("explainsAll(0), 40 smudges", Make.withSameNights(8, 40, 1, true).explainsAll(0), false);
        SmudgedStar none = Make.withBlame(8, 0);
        Make.writeDownOften(none, 20, 255, true);
        Make.writeDownOften(none, 20, 255, false);
        CHECK.same("unexplainedBy(0), 20 smudges of 40", none.unexplainedBy(0), 20);
    }

    private static void cleared() {
        CHECK.sentence("Terms", "A thing is cleared, if it was used in some night without a smudge.");
        CHECK.same("isCleared(0) without nights", Make.withThings(8).isCleared(0), false);
        CHECK.same("isCleared(0), 40 smudges", Make.withSameNights(8, 40, 1, true).isCleared(0), false);
        CHECK.same("isCleared(0), 40 nights without it", Make.withSameNights(8, 40, 254, false).isCleared(0), false);
        for (int night : new int[] {0, 20, 39}) {
            SmudgedStar star = Make.withSameNights(8, night, 255, true);
            star.writeDown(129, false);
            Make.writeDownOften(star, 39 - night, 255, true);
            for (int thing = 0; thing < 8; thing++) {
                CHECK.same("isCleared(" + thing + ") by night " + night + " of 40", star.isCleared(thing),
                        thing == 0 || thing == 7);
            }
        }
    }

    private static void proved() {
        CHECK.sentence("Terms", "It is proved, if in some night with a smudge it was used, and all others that were "
                + "used in this night are cleared;");
        CHECK.same("isProved(0) without nights", Make.withThings(8).isProved(0), false);
        CHECK.same("isProved(0), used alone with a smudge", Make.withNights(8, 1, 1).isProved(0), true);
        CHECK.same("isProved(0), used alone without one", Make.withNights(8, 1, 0).isProved(0), false);
        CHECK.same("isProved(0), not used with the smudge", Make.withNights(8, 1, 0, 2, 1).isProved(0), false);
        CHECK.same("isProved(7), 7 others cleared", Make.withNights(8, 255, 1, 127, 0).isProved(7), true);
        CHECK.same("isProved(7), 6 of 7 others cleared", Make.withNights(8, 255, 1, 126, 0).isProved(7), false);
        CHECK.same("isProved(7), 6 and itself", Make.withNights(8, 255, 1, 254, 0).isProved(7), false);
        CHECK.same("isProved(7), others cleared that were not used", Make.withNights(8, 129, 1, 126, 0).isProved(7),
                false);
        for (int night : new int[] {0, 20, 39}) {
            SmudgedStar star = Make.withSameNights(2, night, 3, true);
            star.writeDown(2, true);
            Make.writeDownOften(star, 39 - night, 3, true);
            CHECK.same("isProved(1) by night " + night + " of 40", star.isProved(1), true);
            CHECK.same("isProved(0) by night " + night + " of 40", star.isProved(0), false);
        }
    }

    private static void clearedAndProved() {
        CHECK.sentence("Terms", "so one can be cleared and not proved, proved and not cleared, none of both, or both "
                + "(if the nights contradict each other).");
        expectClearedAndProved("without nights", Make.withThings(1), false, false);
        expectClearedAndProved("no smudge", Make.withNights(1, 1, 0), true, false);
        expectClearedAndProved("a smudge", Make.withNights(1, 1, 1), false, true);
        expectClearedAndProved("one of two", Make.withNights(2, 3, 1), false, false);
        expectClearedAndProved("both alone", Make.withNights(1, 1, 0, 1, 1), true, true);
        expectClearedAndProved("both with another", Make.withNights(2, 3, 1, 3, 0), true, true);
        CHECK.same("agree(), both", Make.withNights(2, 3, 1, 3, 0).agree(), false);
    }

    private static void expectClearedAndProved(String when, SmudgedStar star, boolean cleared, boolean proved) {
        CHECK.same("isCleared(0), " + when, star.isCleared(0), cleared);
        CHECK.same("isProved(0), " + when, star.isProved(0), proved);
    }

    private static void someSetExplainsAll() {
        CHECK.sentence("Terms", "The nights agree, if some set explains all.");
        CHECK.same("agree(), any set", Make.withThings(8).agree(), true);
        CHECK.same("agree(), the empty set alone", Make.withNights(8, 255, 0).agree(), true);
        SmudgedStar each = Make.withNights(8, 1, 1, 2, 1, 4, 1, 8, 1, 16, 1, 32, 1, 64, 1, 128, 1);
        CHECK.same("agree(), all things alone", each.agree(), true);
        each.writeDown(128, false);
        CHECK.same("agree(), no set", each.agree(), false);
        SmudgedStar late = Make.withSameNights(8, 39, 255, true);
        CHECK.same("agree(), 39 nights", late.agree(), true);
        late.writeDown(255, false);
        CHECK.same("agree(), the last of 40 contradicts", late.agree(), false);
    }

    private static void atMostEightAstronomers() {
        CHECK.sentence("Terms", "Astronomers. At most 8, numbered likewise;");
        SmudgedStar star = new SmudgedStar();
        CHECK.raises("blamedBy(0) without astronomers", star, INDEX, s -> s.blamedBy(0));
        for (int astronomer = 0; astronomer < 8; astronomer++) {
            CHECK.same("addAstronomer(5)", star.addAstronomer(5), astronomer);
            CHECK.same("blamedBy() of the newest", star.blamedBy(astronomer), 0);
        }
        CHECK.same("astronomers()", star.astronomers(), 8);
        CHECK.raises("a ninth addAstronomer(5)", star, STATE, s -> s.addAstronomer(5));
        CHECK.raises("blamedBy(8)", star, INDEX, s -> s.blamedBy(8));
        CHECK.same("astronomers() then", star.astronomers(), 8);
    }

    private static void blameAndStubbornnessAtFirst() {
        CHECK.sentence("Terms", "each has a set of things that this one blames (the empty one, at first), and so much "
                + "stubbornness, 0 to 5: [..] (at first as many as told).");
        SmudgedStar star = Make.withNights(8, 255, 1, 1, 1);
        for (int stubbornness = 0; stubbornness <= 5; stubbornness++) {
            star.addAstronomer(stubbornness);
            CHECK.same("blamedBy() at first", star.blamedBy(stubbornness), 0);
            CHECK.same("stubbornnessOf() at first", star.stubbornnessOf(stubbornness), stubbornness);
        }
    }

    private static void stubbornnessZeroToFive() {
        CHECK.sentence("Terms", "so much stubbornness, 0 to 5");
        SmudgedStar star = new SmudgedStar();
        CHECK.raises("addAstronomer(-1)", star, ARGUMENT, s -> s.addAstronomer(-1));
        CHECK.raises("addAstronomer(0)", star, null, s -> s.addAstronomer(0));
        CHECK.raises("addAstronomer(5)", star, null, s -> s.addAstronomer(5));
        CHECK.raises("addAstronomer(6)", star, ARGUMENT, s -> s.addAstronomer(6));
    }

    private static void nightsBeforeGivingUp() {
        CHECK.sentence("Terms", "how many more nights are not explained by it before this one gives it up");
        for (int stubbornness = 0; stubbornness <= 5; stubbornness++) {
            SmudgedStar star = Make.withAstronomers(1, stubbornness);
            for (int night = 1; night <= stubbornness; night++) {
                CHECK.same("writeDown(1, true) of " + stubbornness, star.writeDown(1, true), 0);
                CHECK.same("blamedBy(0) after night " + night + " of " + stubbornness, star.blamedBy(0), 0);
                CHECK.same("stubbornnessOf(0)", star.stubbornnessOf(0), stubbornness - night);
            }
            CHECK.same("writeDown(1, true) at last", star.writeDown(1, true), 1);
            CHECK.same("blamedBy(0), given up after " + stubbornness, star.blamedBy(0), 1);
        }
    }

    private static void oneStubbornnessLess() {
        CHECK.sentence("Terms", "As a night is written down, each astronomer whose set does not explain it has 1 "
                + "stubbornness less, if there is some;");
        SmudgedStar star = Make.withAstronomers(2, 5, 1, 5, 1, 0, 1, 1, 1);
        star.blame(2, 2);
        star.blame(3, 2);
        CHECK.same("writeDown(2, true)", star.writeDown(2, true), 1);
        expectStubbornness("a night", star, 4, 0, 5, 1, 0, 0, 0, 0);
        expectBlame("a night", star, 0, 0, 2, 2, 2, 0, 0, 0);
        CHECK.same("writeDown(2, true) again", star.writeDown(2, true), 4);
        expectStubbornness("two nights", star, 3, 1, 5, 1, 0, 1, 1, 1);
        expectBlame("two nights", star, 0, 2, 2, 2, 2, 2, 2, 2);
    }

    private static void explainedNightsCostNothing() {
        CHECK.sentence("Terms", "each astronomer whose set does not explain it");
        SmudgedStar star = Make.withAstronomers(2, 0, 5, 0, 5);
        star.blame(2, 1);
        star.blame(3, 1);
        Make.writeDownOften(star, 20, 2, false);
        expectStubbornness("20 nights that all explain", star, 0, 5, 0, 5);
        star.strike(0);
        CHECK.same("writeDown(1, true)", star.writeDown(1, true), 1);
        expectStubbornness("a night that two explain", star, 0, 4, 0, 5);
        expectBlame("a night that two explain", star, 1, 0, 1, 1);
    }

    private static void fewestThings() {
        CHECK.sentence("Terms", "if there is none, this one blames the fewest things that explain all nights then");
        SmudgedStar one = Make.withAstronomers(3, 0);
        Make.writeDown(one, 5, 1, 6, 1);
        expectBlame("one thing, 4, against two, 3", one, 4);
        SmudgedStar seven = Make.withAstronomers(8, 0);
        Make.writeDown(seven, 65, 1, 66, 1, 68, 1, 72, 1, 80, 1, 96, 1, 192, 1);
        expectBlame("one thing, 64, against seven", seven, 64);
    }

    private static void smallestNumber() {
        CHECK.sentence("Terms", "of several such sets the one with the smallest number");
        SmudgedStar eight = Make.withAstronomers(8, 0);
        eight.writeDown(255, true);
        expectBlame("each of 8 things does", eight, 1);
        SmudgedStar two = Make.withAstronomers(8, 0);
        two.writeDown(192, true);
        expectBlame("each of the last two does", two, 64);
        SmudgedStar pairs = Make.withAstronomers(4, 1);
        pairs.writeDown(12, true);
        pairs.writeDown(3, true);
        expectBlame("one of each pair does", pairs, 5);
    }

    private static void emptySetAndAllThingsAreTakenUp() {
        CHECK.sentence("Terms", "this one blames the fewest things that explain all nights then");
        SmudgedStar none = Make.withBlame(8);
        none.addAstronomer(0);
        none.blame(0, 255);
        CHECK.same("writeDown(255, false)", none.writeDown(255, false), 1);
        expectBlame("nothing explains it", none, 0);
        SmudgedStar all = Make.withAstronomers(8, 0);
        for (int thing = 0; thing < 8; thing++) {
            CHECK.same("writeDown(" + (1 << thing) + ", true)", all.writeDown(1 << thing, true), 1);
            expectBlame("all to thing " + thing, all, (2 << thing) - 1);
        }
    }

    private static void allNightsThen() {
        CHECK.sentence("Terms", "that explain all nights then");
        SmudgedStar star = Make.withAstronomers(2, 0);
        star.writeDown(3, true);
        expectBlame("one of two", star, 1);
        CHECK.same("writeDown(1, false), this night counts too", star.writeDown(1, false), 1);
        expectBlame("the other", star, 2);
        SmudgedStar struck = Make.withNights(2, 1, 1);
        struck.strike(0);
        struck.addAstronomer(0);
        struck.writeDown(2, true);
        expectBlame("a struck night does not count", struck, 2);
    }

    private static void stubbornnessOfTheBeginning() {
        CHECK.sentence("Terms", "and has the stubbornness of the beginning again;");
        for (int stubbornness = 0; stubbornness <= 5; stubbornness++) {
            SmudgedStar star = Make.withAstronomers(1, stubbornness);
            Make.writeDownOften(star, stubbornness, 1, true);
            expectStubbornness("all but given up", star, 0);
            star.writeDown(1, true);
            expectStubbornness("given up", star, stubbornness);
        }
    }

    private static void noSuchSet() {
        CHECK.sentence("Terms", "if there is no such set, nothing of this one is changed.");
        SmudgedStar star = Make.withAstronomers(2, 0, 5, 1, 0);
        star.blame(0, 3);
        star.blame(3, 2);
        star.writeDown(2, true);
        expectStubbornness("before", star, 0, 4, 0, 0);
        CHECK.same("writeDown(2, false), which contradicts", star.writeDown(2, false), 0);
        expectBlame("no set", star, 3, 0, 0, 2);
        expectStubbornness("no set", star, 0, 4, 0, 0);
        CHECK.same("writeDown(2, true), no set still", star.writeDown(2, true), 0);
        expectBlame("no set still", star, 3, 0, 0, 2);
        expectStubbornness("no set still, but there was some", star, 0, 3, 0, 0);
        CHECK.same("changesOfMind()", star.changesOfMind(), 0);
    }

    private static void moreThanHalf() {
        CHECK.sentence("Terms", "A vote blames each thing that more than half of all astronomers blame.");
        CHECK.same("vote() without things", Make.withAstronomers(0, 5).vote(), 0);
        CHECK.same("vote() without astronomers", Make.withThings(8).vote(), 0);
        for (int all = 1; all <= 8; all++) {
            SmudgedStar star = Make.withAstronomers(8, new int[all]);
            for (int blaming = 1; blaming <= all; blaming++) {
                star.blame(blaming - 1, 129);
                int due = blaming > all - blaming ? 129 : 0;
                CHECK.same("vote() of " + blaming + " of " + all, star.vote(), due);
            }
        }
        CHECK.same("vote() of 8 for all things", Make.withBlame(8, 255, 255, 255, 255, 255, 255, 255, 255).vote(), 255);
        CHECK.same("vote() of 4 to 4 of 8", Make.withBlame(8, 15, 15, 15, 15, 240, 240, 240, 240).vote(), 0);
        CHECK.same("vote() of 5 of 8 for thing 4", Make.withBlame(8, 15, 15, 15, 31, 240, 240, 240, 240).vote(), 16);
    }

    private static void aCallThatThrowsChangesNothing() {
        CHECK.sentence("Terms", "A method that throws an exception changes nothing.");
        CHECK.refuses("addThing()", Make::fullThatAgrees, STATE, SmudgedStar::addThing);
        CHECK.refuses("addAstronomer(6)", Make::small, ARGUMENT, s -> s.addAstronomer(6));
        CHECK.refuses("addAstronomer(0)", Make::fullThatAgrees, STATE, s -> s.addAstronomer(0));
        CHECK.refuses("blame(2, 0)", Make::small, INDEX, s -> s.blame(2, 0));
        CHECK.refuses("blame(0, 8)", Make::small, ARGUMENT, s -> s.blame(0, 8));
        CHECK.refuses("writeDown(8, true)", Make::small, ARGUMENT, s -> s.writeDown(8, true));
        CHECK.refuses("writeDown(255, true)", Make::fullThatAgrees, STATE, s -> s.writeDown(255, true));
        CHECK.refuses("writeDown(255, false)", Make::fullThatAgrees, STATE, s -> s.writeDown(255, false));
        CHECK.refuses("strike(2)", Make::small, INDEX, s -> s.strike(2));
        CHECK.refuses("strike(40)", Make::fullThatAgrees, INDEX, s -> s.strike(40));
        CHECK.refuses("wouldChange(0, true)", Make::small, ARGUMENT, s -> s.wouldChange(0, true));
        CHECK.refuses("wouldChange(255, true)", Make::fullThatAgrees, STATE, s -> s.wouldChange(255, true));
        CHECK.refuses("explainsAll(-1)", Make::small, ARGUMENT, s -> s.explainsAll(-1));
        CHECK.refuses("leftIfSmudged(0)", Make::small, ARGUMENT, s -> s.leftIfSmudged(0));
    }

    private static void theExceptionNamedFirst() {
        CHECK.sentence("Terms", "If several exceptions apply, the one that is named first is thrown.");
        for (int wrong : new int[] {-1, 6}) {
            CHECK.refuses("addAstronomer(" + wrong + ") with 8", Make::full, ARGUMENT, s -> s.addAstronomer(wrong));
        }
        for (int wrong : new int[] {-1, 8}) {
            CHECK.refuses("blame(" + wrong + ", -1) of 8", Make::full, INDEX, s -> s.blame(wrong, -1));
            CHECK.refuses("blame(" + wrong + ", 256) of 8", Make::full, INDEX, s -> s.blame(wrong, 256));
        }
        CHECK.refuses("blame(0, 1) without anything", SmudgedStar::new, INDEX, s -> s.blame(0, 1));
        for (int wrong : new int[] {-1, 0, 256}) {
            CHECK.refuses("writeDown(" + wrong + ", true) with 40", Make::full, ARGUMENT,
                    s -> s.writeDown(wrong, true));
            CHECK.refuses("wouldChange(" + wrong + ", true) with 40", Make::full, ARGUMENT,
                    s -> s.wouldChange(wrong, true));
        }
    }

    private static void expectBlame(String when, SmudgedStar star, int... due) {
        for (int astronomer = 0; astronomer < due.length; astronomer++) {
            CHECK.same("blamedBy(" + astronomer + "), " + when, star.blamedBy(astronomer), due[astronomer]);
        }
    }

    private static void expectStubbornness(String when, SmudgedStar star, int... due) {
        for (int astronomer = 0; astronomer < due.length; astronomer++) {
            CHECK.same("stubbornnessOf(" + astronomer + "), " + when, star.stubbornnessOf(astronomer), due[astronomer]);
        }
    }
}
