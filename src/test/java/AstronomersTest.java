/** Promises 18 to 24: astronomers. */
public final class AstronomersTest {
    private static final Check CHECK = new Check();

    public static void main(String[] args) {
        astronomers();
        blamedBy();
        stubbornnessOf();
        unexplainedBy();
        votesFor();
        vote();
        changesOfMind();
        CHECK.end();
    }

    private static void astronomers() {
        CHECK.promise("promise 18");
        SmudgedStar star = new SmudgedStar();
        for (int count = 0; count < 8; count++) {
            CHECK.same("astronomers()", star.astronomers(), count);
            star.addAstronomer(5);
        }
        CHECK.same("astronomers()", star.astronomers(), 8);
    }

    private static void blamedBy() {
        CHECK.promise("promise 19");
        SmudgedStar star = Make.withAstronomers(8, 0, 0, 5);
        CHECK.same("blamedBy(0) at first", star.blamedBy(0), 0);
        star.blame(1, 255);
        star.blame(2, 9);
        CHECK.same("blamedBy(0)", star.blamedBy(0), 0);
        CHECK.same("blamedBy(1)", star.blamedBy(1), 255);
        CHECK.same("blamedBy(2)", star.blamedBy(2), 9);
        star.writeDown(6, true);
        CHECK.same("blamedBy(0) by a night", star.blamedBy(0), 2);
        CHECK.same("blamedBy(1), which explains it", star.blamedBy(1), 255);
        CHECK.same("blamedBy(2), who is stubborn", star.blamedBy(2), 9);
    }

    private static void stubbornnessOf() {
        CHECK.promise("promise 20");
        SmudgedStar star = Make.withAstronomers(2, 2, 0);
        CHECK.same("stubbornnessOf(0) at first", star.stubbornnessOf(0), 2);
        CHECK.same("stubbornnessOf(1) at first", star.stubbornnessOf(1), 0);
        int[] due = {1, 0, 2};
        for (int left : due) {
            star.writeDown(1, true);
            CHECK.same("stubbornnessOf(0)", star.stubbornnessOf(0), left);
            CHECK.same("stubbornnessOf(1)", star.stubbornnessOf(1), 0);
        }
        star.writeDown(1, true);
        CHECK.same("stubbornnessOf(0), night explained", star.stubbornnessOf(0), 2);
    }

    private static void unexplainedBy() {
        CHECK.promise("promise 21");
        SmudgedStar star = Make.withAstronomers(3, 5, 5, 5);
        star.blame(1, 7);
        star.blame(2, 1);
        CHECK.same("unexplainedBy(0) without nights", star.unexplainedBy(0), 0);
        star.writeDown(1, true);
        star.writeDown(2, false);
        star.writeDown(6, true);
        star.writeDown(3, false);
        CHECK.same("unexplainedBy(0), of the empty set", star.unexplainedBy(0), 2);
        CHECK.same("unexplainedBy(1), of all things", star.unexplainedBy(1), 2);
        CHECK.same("unexplainedBy(2)", star.unexplainedBy(2), 2);
        star.strike(3);
        CHECK.same("unexplainedBy(2) after strike", star.unexplainedBy(2), 1);
        star.blame(2, 5);
        CHECK.same("unexplainedBy(2) after blame", star.unexplainedBy(2), 0);
        SmudgedStar all = Make.withAstronomers(1, 5);
        for (int night = 0; night < 40; night++) {
            all.writeDown(1, true);
        }
        all.blame(0, 0);
        CHECK.same("unexplainedBy(0) of 40", all.unexplainedBy(0), 40);
    }

    private static void votesFor() {
        CHECK.promise("promise 22");
        SmudgedStar star = Make.withAstronomers(3, 0, 0, 0);
        star.blame(0, 5);
        star.blame(1, 4);
        CHECK.same("votesFor(0)", star.votesFor(0), 1);
        CHECK.same("votesFor(1)", star.votesFor(1), 0);
        CHECK.same("votesFor(2)", star.votesFor(2), 2);
        CHECK.same("votesFor(0) without astronomers", Make.withThings(1).votesFor(0), 0);
        SmudgedStar most = Make.withAstronomers(8, 0, 0, 0, 0, 0, 0, 0, 0);
        for (int astronomer = 0; astronomer < 8; astronomer++) {
            most.blame(astronomer, 128);
        }
        CHECK.same("votesFor(7) of 8", most.votesFor(7), 8);
    }

    private static void vote() {
        CHECK.promise("promise 23");
        CHECK.same("vote() without anything", new SmudgedStar().vote(), 0);
        CHECK.same("vote() without astronomers", Make.withThings(8).vote(), 0);
        SmudgedStar star = Make.withAstronomers(8, 0, 0);
        star.blame(0, 255);
        CHECK.same("vote(), one of two is not more than half", star.vote(), 0);
        star.blame(1, 130);
        CHECK.same("vote(), both", star.vote(), 130);
        star.addAstronomer(0);
        CHECK.same("vote(), two of three", star.vote(), 130);
        star.addAstronomer(0);
        CHECK.same("vote(), two of four", star.vote(), 0);
        star.blame(2, 6);
        CHECK.same("vote(), three of four for thing 1", star.vote(), 2);
    }

    private static void changesOfMind() {
        CHECK.promise("promise 24");
        SmudgedStar star = Make.withAstronomers(2, 0, 0, 1);
        CHECK.same("changesOfMind() at first", star.changesOfMind(), 0);
        star.blame(0, 2);
        CHECK.same("changesOfMind() after blame", star.changesOfMind(), 0);
        star.writeDown(3, true);
        CHECK.same("changesOfMind() after a night", star.changesOfMind(), 1);
        star.writeDown(3, true);
        CHECK.same("changesOfMind() after another", star.changesOfMind(), 2);
        star.wouldChange(3, false);
        star.writeDown(3, false);
        CHECK.same("changesOfMind() after a contradiction", star.changesOfMind(), 2);
        star.strike(0);
        CHECK.same("changesOfMind() after strike", star.changesOfMind(), 2);
    }
}
