/** Makes objects that the tests start from. */
final class Make {
    /** The set of all of 8 things. */
    static final int ALL = 255;

    private Make() {
    }

    static SmudgedStar withThings(int things) {
        SmudgedStar star = new SmudgedStar();
        for (int i = 0; i < things; i++) {
            star.addThing();
        }
        return star;
    }

    static SmudgedStar withAstronomers(int things, int... stubbornness) {
        SmudgedStar star = withThings(things);
        for (int s : stubbornness) {
            star.addAstronomer(s);
        }
        return star;
    }

    /** 8 astronomers, so many of them of stubbornness 1 and the others of 0. */
    static SmudgedStar withStubborn(int things, int stubborn) {
        SmudgedStar star = withThings(things);
        for (int astronomer = 0; astronomer < 8; astronomer++) {
            star.addAstronomer(astronomer < stubborn ? 1 : 0);
        }
        return star;
    }

    /** One astronomer to each set, who blames it. */
    static SmudgedStar withBlame(int things, int... sets) {
        SmudgedStar star = withThings(things);
        for (int set : sets) {
            star.blame(star.addAstronomer(5), set);
        }
        return star;
    }

    /** Nights as pairs: the set, and 1 for a smudge or 0 for none. */
    static SmudgedStar withNights(int things, int... nights) {
        SmudgedStar star = withThings(things);
        writeDown(star, nights);
        return star;
    }

    static void writeDown(SmudgedStar star, int... nights) {
        for (int i = 0; i + 1 < nights.length; i += 2) {
            star.writeDown(nights[i], nights[i + 1] == 1);
        }
    }

    static SmudgedStar withSameNights(int things, int count, int used, boolean smudged) {
        SmudgedStar star = withThings(things);
        writeDownOften(star, count, used, smudged);
        return star;
    }

    static void writeDownOften(SmudgedStar star, int count, int used, boolean smudged) {
        for (int night = 0; night < count; night++) {
            star.writeDown(used, smudged);
        }
    }

    /** 8 things, 8 astronomers of stubbornness 0 to 5 and 40 nights, which contradict each other. */
    static SmudgedStar full() {
        SmudgedStar star = withAstronomers(8, 0, 1, 2, 3, 4, 5, 0, 5);
        for (int night = 0; night < 40; night++) {
            star.writeDown(1 + night * 37 % 255, night % 3 != 0);
        }
        return star;
    }

    /** 8 things, 8 astronomers and 40 nights, explained by each set with the things 0 and 7 and without 2, 3 and 5. */
    static SmudgedStar fullThatAgrees() {
        SmudgedStar star = withAstronomers(8, 5, 4, 3, 2, 1, 0, 5, 0);
        star.blame(0, ALL);
        star.blame(1, 129);
        int[] nights = {128, 1, 44, 0, 1, 1, 63, 1, 36, 0, 130, 1, 8, 0, 255, 1};
        for (int times = 0; times < 5; times++) {
            writeDown(star, nights);
        }
        star.blame(2, 18);
        return star;
    }

    /** A few of each: 3 things, 2 astronomers and 2 nights. */
    static SmudgedStar small() {
        SmudgedStar star = withAstronomers(3, 2, 5);
        star.blame(1, 4);
        writeDown(star, 3, 1, 4, 0);
        return star;
    }
}
