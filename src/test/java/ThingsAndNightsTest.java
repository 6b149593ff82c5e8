/** Promises 7 to 17: things, and nights. */
public final class ThingsAndNightsTest {
    private static final Check CHECK = new Check();

    public static void main(String[] args) {
        things();
        countsOfNights();
        isCleared();
        isProved();
        setsWith();
        nights();
        agree();
        CHECK.end();
    }

    private static void things() {
        CHECK.promise("promise 7");
        for (int things = 0; things <= 8; things++) {
            CHECK.same("things()", Make.withThings(things).things(), things);
        }
    }

    private static void countsOfNights() {
        SmudgedStar star = Make.withNights(4, 1, 1, 3, 0, 7, 1, 4, 0, 5, 1);
        CHECK.promise("promise 8");
        CHECK.same("nightsWith(0)", star.nightsWith(0), 4);
        CHECK.same("nightsWith(1)", star.nightsWith(1), 2);
        CHECK.same("nightsWith(2)", star.nightsWith(2), 3);
        CHECK.same("nightsWith(3)", star.nightsWith(3), 0);
        CHECK.promise("promise 9");
        CHECK.same("smudgesWith(0)", star.smudgesWith(0), 3);
        CHECK.same("smudgesWith(1)", star.smudgesWith(1), 1);
        CHECK.same("smudgesWith(2)", star.smudgesWith(2), 2);
        CHECK.same("smudgesWith(3)", star.smudgesWith(3), 0);
        SmudgedStar most = Make.withThings(8);
        for (int night = 0; night < 40; night++) {
            most.writeDown(128, true);
        }
        CHECK.promise("promise 8");
        CHECK.same("nightsWith(7)", most.nightsWith(7), 40);
        CHECK.same("nightsWith(6)", most.nightsWith(6), 0);
        CHECK.promise("promise 9");
        CHECK.same("smudgesWith(7)", most.smudgesWith(7), 40);
    }

    private static void isCleared() {
        CHECK.promise("promise 10");
        SmudgedStar star = Make.withNights(4, 3, 0, 6, 1, 9, 1);
        CHECK.same("isCleared(0)", star.isCleared(0), true);
        CHECK.same("isCleared(1)", star.isCleared(1), true);
        CHECK.same("isCleared(2)", star.isCleared(2), false);
        CHECK.same("isCleared(3)", star.isCleared(3), false);
        star.strike(0);
        CHECK.same("isCleared(0) after strike", star.isCleared(0), false);
        CHECK.same("isCleared(0) without nights", Make.withThings(1).isCleared(0), false);
    }

    private static void isProved() {
        CHECK.promise("promise 11");
        CHECK.same("isProved(0) without nights", Make.withThings(1).isProved(0), false);
        CHECK.same("isProved(0), used alone", Make.withNights(2, 1, 1).isProved(0), true);
        CHECK.same("isProved(1), not used", Make.withNights(2, 1, 1).isProved(1), false);
        CHECK.same("isProved(0), no smudge", Make.withNights(1, 1, 0).isProved(0), false);
        SmudgedStar star = Make.withNights(4, 7, 1, 1, 0);
        CHECK.same("isProved(1), the other not cleared", star.isProved(1), false);
        star.writeDown(4, false);
        CHECK.same("isProved(1), all others cleared", star.isProved(1), true);
        CHECK.same("isProved(0), cleared", star.isProved(0), false);
        CHECK.same("isProved(3), not used", star.isProved(3), false);
        star.writeDown(2, false);
        CHECK.same("isProved(0), all contradict", star.isProved(0), true);
        CHECK.same("isCleared(0), all contradict", star.isCleared(0), true);
        SmudgedStar both = Make.withNights(2, 1, 1, 1, 0);
        CHECK.same("isProved(0), cleared too", both.isProved(0), true);
        CHECK.same("isCleared(0), proved too", both.isCleared(0), true);
        CHECK.same("isProved(1), not used where all are cleared", both.isProved(1), false);
        SmudgedStar later = Make.withNights(3, 6, 1, 3, 1, 1, 0);
        CHECK.same("isProved(1) by the second night", later.isProved(1), true);
        CHECK.same("isProved(2)", later.isProved(2), false);
    }

    private static void setsWith() {
        CHECK.promise("promise 12");
        CHECK.same("setsWith(7) without nights", Make.withThings(8).setsWith(7), 128);
        CHECK.same("setsWith(0) without nights", Make.withThings(1).setsWith(0), 1);
        SmudgedStar star = Make.withNights(3, 3, 1);
        CHECK.same("setsWith(0)", star.setsWith(0), 4);
        CHECK.same("setsWith(2)", star.setsWith(2), 3);
        star.writeDown(1, false);
        CHECK.same("setsWith(0), cleared", star.setsWith(0), 0);
        CHECK.same("setsWith(1)", star.setsWith(1), 2);
        CHECK.same("setsWith(2)", star.setsWith(2), 1);
        star.writeDown(2, false);
        CHECK.same("setsWith(2), nights contradict", star.setsWith(2), 0);
    }

    private static void nights() {
        SmudgedStar star = Make.withNights(3, 1, 1, 7, 0, 4, 1);
        CHECK.promise("promise 13");
        CHECK.same("nights()", star.nights(), 3);
        CHECK.same("nights() of 40", Make.full().nights(), 40);
        CHECK.promise("promise 14");
        CHECK.same("smudges()", star.smudges(), 2);
        CHECK.same("smudges() of 40", Make.full().smudges(), 26);
        CHECK.same("smudges() without nights", Make.withThings(2).smudges(), 0);
        CHECK.promise("promise 15");
        CHECK.same("usedIn(0)", star.usedIn(0), 1);
        CHECK.same("usedIn(1)", star.usedIn(1), 7);
        CHECK.same("usedIn(2)", star.usedIn(2), 4);
        CHECK.same("usedIn(39)", Make.full().usedIn(39), 1 + 39 * 37 % 255);
        CHECK.promise("promise 16");
        CHECK.same("isSmudged(0)", star.isSmudged(0), true);
        CHECK.same("isSmudged(1)", star.isSmudged(1), false);
        CHECK.same("isSmudged(2)", star.isSmudged(2), true);
        CHECK.same("isSmudged(39)", Make.full().isSmudged(39), false);
        star.strike(0);
        CHECK.promise("promise 13");
        CHECK.same("nights() after strike", star.nights(), 2);
        CHECK.promise("promise 14");
        CHECK.same("smudges() after strike", star.smudges(), 1);
    }

    private static void agree() {
        CHECK.promise("promise 17");
        CHECK.same("agree() without anything", new SmudgedStar().agree(), true);
        CHECK.same("agree() without nights", Make.withThings(8).agree(), true);
        CHECK.same("agree()", Make.withNights(2, 3, 1, 1, 0).agree(), true);
        CHECK.same("agree(), nights contradict", Make.withNights(2, 3, 1, 1, 0, 2, 0).agree(), false);
        CHECK.same("agree(), nothing to blame", Make.withNights(8, 255, 0).agree(), true);
    }
}
