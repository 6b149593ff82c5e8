/** All that an object answers without being changed, as one text. */
final class Answers {
    private Answers() {
    }

    static String of(SmudgedStar star) {
        StringBuilder text = new StringBuilder();
        text.append("things ").append(star.things());
        for (int thing = 0; thing < star.things(); thing++) {
            text.append(" [").append(star.nightsWith(thing));
            text.append(' ').append(star.smudgesWith(thing));
            text.append(' ').append(star.isCleared(thing));
            text.append(' ').append(star.isProved(thing));
            text.append(' ').append(star.setsWith(thing));
            text.append(' ').append(star.votesFor(thing)).append(']');
        }
        text.append(" nights ").append(star.nights()).append(' ').append(star.smudges());
        for (int night = 0; night < star.nights(); night++) {
            text.append(" [").append(star.usedIn(night));
            text.append(' ').append(star.isSmudged(night)).append(']');
        }
        text.append(" agree ").append(star.agree());
        text.append(" astronomers ").append(star.astronomers());
        for (int astronomer = 0; astronomer < star.astronomers(); astronomer++) {
            text.append(" [").append(star.blamedBy(astronomer));
            text.append(' ').append(star.stubbornnessOf(astronomer));
            text.append(' ').append(star.unexplainedBy(astronomer)).append(']');
        }
        text.append(" vote ").append(star.vote());
        text.append(" changes ").append(star.changesOfMind());
        text.append(" explanations ").append(star.explanations());
        text.append(" simplest ").append(star.simplest());
        text.append(" sure ").append(star.surelyToBlame());
        text.append(" doubt ").append(star.nightsToDoubt());
        text.append(" best ").append(star.bestNight());
        text.append(" mean ").append(star.meanBlame());
        text.append(" digest ").append(star.digest());
        return text.toString();
    }
}
