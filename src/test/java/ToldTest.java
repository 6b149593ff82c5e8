/** Promises 1 to 6: what is told. */
public final class ToldTest {
    private static final Check CHECK = new Check();

    public static void main(String[] args) {
        newObject();
        addThing();
        addAstronomer();
        blame();
        stubbornnessRunsOut();
        fewestThingsAreBlamed();
        nightsThatContradict();
        strike();
        strikeLeavesAstronomers();
        CHECK.end();
    }

    private static void newObject() {
        CHECK.promise("promise 1");
        SmudgedStar star = new SmudgedStar();
        CHECK.same("things()", star.things(), 0);
        CHECK.same("nights()", star.nights(), 0);
        CHECK.same("smudges()", star.smudges(), 0);
        CHECK.same("astronomers()", star.astronomers(), 0);
        CHECK.same("changesOfMind()", star.changesOfMind(), 0);
        CHECK.same("explanations()", star.explanations(), 1);
        SmudgedStar other = new SmudgedStar();
        star.addThing();
        star.addAstronomer(0);
        star.writeDown(1, true);
        CHECK.same("things() of another", other.things(), 0);
        CHECK.same("nights() of another", other.nights(), 0);
        CHECK.same("astronomers() of another", other.astronomers(), 0);
    }

    private static void addThing() {
        CHECK.promise("promise 2");
        SmudgedStar star = new SmudgedStar();
        for (int thing = 0; thing < 8; thing++) {
            CHECK.same("addThing()", star.addThing(), thing);
        }
        SmudgedStar late = Make.withNights(1, 1, 1);
        CHECK.same("addThing() after a night", late.addThing(), 1);
        CHECK.same("nightsWith(1)", late.nightsWith(1), 0);
        CHECK.same("smudgesWith(1)", late.smudgesWith(1), 0);
        CHECK.same("isCleared(1)", late.isCleared(1), false);
        CHECK.same("isProved(1)", late.isProved(1), false);
        CHECK.same("explanations()", late.explanations(), 2);
        CHECK.same("setsWith(1)", late.setsWith(1), 1);
        CHECK.same("surelyToBlame()", late.surelyToBlame(), 1);
    }

    private static void addAstronomer() {
        CHECK.promise("promise 3");
        SmudgedStar star = Make.withThings(2);
        for (int astronomer = 0; astronomer < 8; astronomer++) {
            int stubbornness = astronomer % 6;
            CHECK.same("addAstronomer()", star.addAstronomer(stubbornness), astronomer);
            CHECK.same("blamedBy()", star.blamedBy(astronomer), 0);
            CHECK.same("stubbornnessOf()", star.stubbornnessOf(astronomer), stubbornness);
        }
    }

    private static void blame() {
        CHECK.promise("promise 4");
        SmudgedStar star = Make.withAstronomers(3, 2, 5);
        CHECK.same("blame(0, 7)", star.blame(0, 7), 0);
        CHECK.same("blame(0, 5)", star.blame(0, 5), 7);
        CHECK.same("blame(0, 0)", star.blame(0, 0), 5);
        CHECK.same("blame(0, 2)", star.blame(0, 2), 0);
        CHECK.same("blamedBy(0)", star.blamedBy(0), 2);
        CHECK.same("blamedBy(1)", star.blamedBy(1), 0);
        star.writeDown(1, true);
        CHECK.same("stubbornnessOf(0)", star.stubbornnessOf(0), 1);
        CHECK.same("blame(0, 2), the same set", star.blame(0, 2), 2);
        CHECK.same("stubbornnessOf(0) after blame", star.stubbornnessOf(0), 2);
        CHECK.same("stubbornnessOf(1), of whom nothing was told", star.stubbornnessOf(1), 4);
        CHECK.same("changesOfMind()", star.changesOfMind(), 0);
        SmudgedStar all = Make.withAstronomers(8, 0);
        CHECK.same("blame(0, 255)", all.blame(0, 255), 0);
        CHECK.same("blamedBy(0)", all.blamedBy(0), 255);
        SmudgedStar none = Make.withAstronomers(0, 0);
        CHECK.same("blame(0, 0) without things", none.blame(0, 0), 0);
    }

    private static void stubbornnessRunsOut() {
        CHECK.promise("promise 5");
        SmudgedStar star = Make.withAstronomers(2, 0, 1, 5);
        CHECK.same("writeDown(1, false), which all explain", star.writeDown(1, false), 0);
        expectStubbornness(star, 0, 1, 5);
        CHECK.same("strike(0)", star.strike(0), 0);
        CHECK.same("first writeDown", star.writeDown(3, true), 1);
        expectBlame(star, 1, 0, 0);
        expectStubbornness(star, 0, 0, 4);
        CHECK.same("second writeDown", star.writeDown(2, true), 2);
        expectBlame(star, 2, 2, 0);
        expectStubbornness(star, 0, 1, 3);
        for (int left = 2; left >= 0; left--) {
            CHECK.same("writeDown", star.writeDown(2, true), 0);
            expectStubbornness(star, 0, 1, left);
        }
        CHECK.same("sixth writeDown", star.writeDown(2, true), 1);
        expectBlame(star, 2, 2, 2);
        expectStubbornness(star, 0, 1, 5);
        CHECK.same("changesOfMind()", star.changesOfMind(), 4);
        CHECK.same("nights()", star.nights(), 6);
        CHECK.same("usedIn(1)", star.usedIn(1), 2);
        CHECK.same("isSmudged(1)", star.isSmudged(1), true);
    }

    private static void fewestThingsAreBlamed() {
        CHECK.promise("promise 5");
        SmudgedStar fewest = Make.withAstronomers(3, 0);
        fewest.writeDown(5, true);
        CHECK.same("writeDown(6, true)", fewest.writeDown(6, true), 1);
        CHECK.same("blamedBy(0): one thing, not the smaller number of two", fewest.blamedBy(0), 4);
        SmudgedStar smallest = Make.withAstronomers(3, 1);
        smallest.writeDown(6, true);
        smallest.writeDown(3, true);
        CHECK.same("blamedBy(0)", smallest.blamedBy(0), 2);
        smallest.blame(0, 0);
        smallest.writeDown(5, true);
        CHECK.same("writeDown(5, true)", smallest.writeDown(5, true), 1);
        CHECK.same("blamedBy(0): the smallest number of three", smallest.blamedBy(0), 3);
        SmudgedStar none = Make.withAstronomers(8, 0);
        none.blame(0, 255);
        CHECK.same("writeDown(255, false)", none.writeDown(255, false), 1);
        CHECK.same("blamedBy(0): the empty set", none.blamedBy(0), 0);
    }

    private static void nightsThatContradict() {
        CHECK.promise("promise 5");
        SmudgedStar star = Make.withAstronomers(2, 0, 1);
        star.blame(0, 1);
        star.blame(1, 1);
        star.writeDown(1, true);
        CHECK.same("writeDown(1, false) against it", star.writeDown(1, false), 0);
        expectBlame(star, 1, 1);
        expectStubbornness(star, 0, 0);
        CHECK.same("writeDown(1, false) again", star.writeDown(1, false), 0);
        expectBlame(star, 1, 1);
        expectStubbornness(star, 0, 0);
        CHECK.same("changesOfMind()", star.changesOfMind(), 0);
        star.strike(0);
        CHECK.same("writeDown(1, false) when nights agree", star.writeDown(1, false), 2);
        expectBlame(star, 0, 0);
        expectStubbornness(star, 0, 1);
    }

    private static void strike() {
        CHECK.promise("promise 6");
        SmudgedStar star = Make.withNights(3, 1, 1, 2, 0, 4, 1, 6, 0);
        CHECK.same("agree() before", star.agree(), false);
        CHECK.same("strike(1)", star.strike(1), 3);
        CHECK.same("usedIn(0)", star.usedIn(0), 1);
        CHECK.same("usedIn(1)", star.usedIn(1), 4);
        CHECK.same("isSmudged(1)", star.isSmudged(1), true);
        CHECK.same("usedIn(2)", star.usedIn(2), 6);
        CHECK.same("isSmudged(2)", star.isSmudged(2), false);
        CHECK.same("strike(2), the last", star.strike(2), 2);
        CHECK.same("agree() then", star.agree(), true);
        CHECK.same("explanations()", star.explanations(), 2);
        CHECK.same("strike(0), the first", star.strike(0), 1);
        CHECK.same("usedIn(0)", star.usedIn(0), 4);
        CHECK.same("explanations()", star.explanations(), 4);
        CHECK.same("strike(0), the only one", star.strike(0), 0);
        CHECK.same("explanations()", star.explanations(), 8);
        SmudgedStar full = Make.full();
        int second = full.usedIn(1);
        CHECK.same("strike(0) with 40", full.strike(0), 39);
        CHECK.same("usedIn(0)", full.usedIn(0), second);
    }

    private static void strikeLeavesAstronomers() {
        CHECK.promise("promise 6");
        SmudgedStar star = Make.withAstronomers(2, 0, 3);
        star.writeDown(1, true);
        star.strike(0);
        expectBlame(star, 1, 0);
        expectStubbornness(star, 0, 2);
        CHECK.same("changesOfMind()", star.changesOfMind(), 1);
        CHECK.same("unexplainedBy(1)", star.unexplainedBy(1), 0);
    }

    private static void expectBlame(SmudgedStar star, int... due) {
        for (int astronomer = 0; astronomer < due.length; astronomer++) {
            CHECK.same("blamedBy(" + astronomer + ")", star.blamedBy(astronomer), due[astronomer]);
        }
    }

    private static void expectStubbornness(SmudgedStar star, int... due) {
        for (int astronomer = 0; astronomer < due.length; astronomer++) {
            CHECK.same("stubbornnessOf(" + astronomer + ")", star.stubbornnessOf(astronomer), due[astronomer]);
        }
    }
}
