/** Makes objects that the tests start from. */
final class Make {
    private Make() {
    }

    static SmudgedStar withThings(int things) {
        SmudgedStar star = new SmudgedStar();
        for (int i = 0; i < things; i++) {
            star.addThing();
        }
        return star;
    }

    static SmudgedStar withAstronomers(int things, int... stubbornness) {
        SmudgedStar star = withThings(things);
        for (int s : stubbornness) {
            star.addAstronomer(s);
        }
        return star;
    }

    /** Nights as pairs: the set, and 1 for a smudge or 0 for none. */
    static SmudgedStar withNights(int things, int... nights) {
        SmudgedStar star = withThings(things);
        for (int i = 0; i + 1 < nights.length; i += 2) {
            star.writeDown(nights[i], nights[i + 1] == 1);
        }
        return star;
    }

    /** 8 things, 8 astronomers of stubbornness 0 to 5 and 40 nights. */
    static SmudgedStar full() {
        SmudgedStar star = withAstronomers(8, 0, 1, 2, 3, 4, 5, 0, 5);
        for (int night = 0; night < 40; night++) {
            star.writeDown(1 + night * 37 % 255, night % 3 != 0);
        }
        return star;
    }
}
