/** All that an object answers, as one text. Each text costs few calls, as an object is used for at most 512. */
final class Answers {
    private Answers() {
    }

    /** What it answers without being changed. */
    static String of(SmudgedStar star) {
        StringBuilder text = new StringBuilder();
        addThings(text, star);
        addNights(text, star);
        addAstronomers(text, star);
        text.append(" agree ").append(star.agree());
        text.append(" vote ").append(star.vote());
        text.append(" changes ").append(star.changesOfMind());
        text.append(" explanations ").append(star.explanations());
        text.append(" simplest ").append(star.simplest());
        text.append(" sure ").append(star.surelyToBlame());
        text.append(" doubt ").append(star.nightsToDoubt());
        text.append(" best ").append(star.bestNight());
        text.append(" mean ").append(star.meanBlame());
        text.append(" digest ").append(star.digest());
        return text.toString();
    }

    /** What it answers as it goes on, which tells what none of these does: how stubborn each one was at first. */
    static String goneOn(SmudgedStar star) {
        StringBuilder text = new StringBuilder();
        int astronomers = star.astronomers();
        for (int astronomer = 0; astronomer < astronomers; astronomer++) {
            text.append(star.blame(astronomer, 0)).append(' ').append(star.stubbornnessOf(astronomer)).append(' ');
        }
        if (star.nights() > 0) {
            text.append(" strike ").append(star.strike(0));
        }
        if (star.things() < 8) {
            text.append(" thing ").append(star.addThing());
        }
        if (astronomers < 8) {
            text.append(" astronomer ").append(star.addAstronomer(3));
        }
        text.append(" night ").append(star.writeDown(1, true)).append(' ');
        return text.append(of(star)).toString();
    }

    private static void addThings(StringBuilder text, SmudgedStar star) {
        int things = star.things();
        text.append("things ").append(things);
        for (int thing = 0; thing < things; thing++) {
            text.append(" [").append(star.nightsWith(thing));
            text.append(' ').append(star.smudgesWith(thing));
            text.append(' ').append(star.isCleared(thing));
            text.append(' ').append(star.isProved(thing));
            text.append(' ').append(star.setsWith(thing));
            text.append(' ').append(star.votesFor(thing)).append(']');
        }
    }

    private static void addNights(StringBuilder text, SmudgedStar star) {
        int nights = star.nights();
        text.append(" nights ").append(nights).append(' ').append(star.smudges());
        for (int night = 0; night < nights; night++) {
            text.append(" [").append(star.usedIn(night));
            text.append(' ').append(star.isSmudged(night)).append(']');
        }
    }

    private static void addAstronomers(StringBuilder text, SmudgedStar star) {
        int astronomers = star.astronomers();
        text.append(" astronomers ").append(astronomers);
        for (int astronomer = 0; astronomer < astronomers; astronomer++) {
            text.append(" [").append(star.blamedBy(astronomer));
            text.append(' ').append(star.stubbornnessOf(astronomer));
            text.append(' ').append(star.unexplainedBy(astronomer)).append(']');
        }
    }
}
