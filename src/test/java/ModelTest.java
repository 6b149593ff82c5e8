import java.util.function.Supplier;

/** Long runs of calls, the same ones each time, on an object and on the model: every answer must be the same. */
public final class ModelTest {
    private static final int RUNS = 240;
    // No more: what an object answers after its 512th call is free.
    private static final int CALLS = 512;
    private static final Check CHECK = new Check();

    private SmudgedStar star = new SmudgedStar();
    private Model model = new Model();
    private int calls;
    private long seed;
    private int truth;
    private int lies;

    public static void main(String[] args) {
        ModelTest test = new ModelTest();
        for (int run = 0; run < RUNS; run++) {
            CHECK.promise("run " + run);
            test.run(run);
        }
        CHECK.end();
    }

    /** Some runs have few nights that contradict each other, some many; some start with all things there. */
    private void run(int number) {
        star = new SmudgedStar();
        model = new Model();
        calls = 0;
        seed = 1000003L * number + 7;
        truth = pick(256);
        lies = number % 4 == 0 ? 30 : number % 4;
        int things = number % 9;
        for (int i = 0; i < things; i++) {
            same("addThing()", star::addThing, model::addThing);
        }
        while (calls + 2 <= CALLS) {
            if (pick(5) < 2) {
                tell();
            } else {
                ask(pick(27));
            }
        }
    }

    private void tell() {
        int kind = pick(20);
        int astronomer = number(model.astronomers());
        int set = number(1 << model.things());
        if (kind == 0) {
            same("addThing()", star::addThing, model::addThing);
        } else if (kind <= 2) {
            int stubbornness = number(6);
            same("addAstronomer(" + stubbornness + ")", () -> star.addAstronomer(stubbornness),
                    () -> model.addAstronomer(stubbornness));
        } else if (kind <= 4) {
            same("blame(" + astronomer + ", " + set + ")", () -> star.blame(astronomer, set),
                    () -> model.blame(astronomer, set));
        } else if (kind <= 7) {
            int night = number(model.nights());
            same("strike(" + night + ")", () -> star.strike(night), () -> model.strike(night));
        } else {
            boolean smudged = ((set & truth) != 0) != (pick(100) < lies);
            same("writeDown(" + set + ", " + smudged + ")", () -> star.writeDown(set, smudged),
                    () -> model.writeDown(set, smudged));
        }
    }

    private void ask(int kind) {
        int thing = number(model.things());
        int night = number(model.nights());
        int astronomer = number(model.astronomers());
        int set = number(1 << model.things());
        boolean smudged = pick(2) == 0;
        switch (kind) {
            case 0 -> same("nightsWith(" + thing + ")", () -> star.nightsWith(thing), () -> model.nightsWith(thing));
            case 1 -> same("smudgesWith(" + thing + ")", () -> star.smudgesWith(thing), () -> model.smudgesWith(thing));
            case 2 -> same("isCleared(" + thing + ")", () -> star.isCleared(thing), () -> model.isCleared(thing));
            case 3 -> same("isProved(" + thing + ")", () -> star.isProved(thing), () -> model.isProved(thing));
            case 4 -> same("setsWith(" + thing + ")", () -> star.setsWith(thing), () -> model.setsWith(thing));
            case 5 -> same("things()", star::things, model::things);
            case 6 -> same("nights()", star::nights, model::nights);
            case 7 -> same("smudges()", star::smudges, model::smudges);
            case 8 -> same("usedIn(" + night + ")", () -> star.usedIn(night), () -> model.usedIn(night));
            case 9 -> same("isSmudged(" + night + ")", () -> star.isSmudged(night), () -> model.isSmudged(night));
            case 10 -> same("agree()", star::agree, model::agree);
            case 11 -> same("astronomers()", star::astronomers, model::astronomers);
            case 12 -> same("blamedBy(" + astronomer + ")", () -> star.blamedBy(astronomer),
                    () -> model.blamedBy(astronomer));
            case 13 -> same("stubbornnessOf(" + astronomer + ")", () -> star.stubbornnessOf(astronomer),
                    () -> model.stubbornnessOf(astronomer));
            case 14 -> same("unexplainedBy(" + astronomer + ")", () -> star.unexplainedBy(astronomer),
                    () -> model.unexplainedBy(astronomer));
            case 15 -> same("votesFor(" + thing + ")", () -> star.votesFor(thing), () -> model.votesFor(thing));
            case 16 -> same("vote()", star::vote, model::vote);
            case 17 -> same("changesOfMind()", star::changesOfMind, model::changesOfMind);
            case 18 -> same("explainsAll(" + set + ")", () -> star.explainsAll(set), () -> model.explainsAll(set));
            case 19 -> same("explanations()", star::explanations, model::explanations);
            case 20 -> same("simplest()", star::simplest, model::simplest);
            case 21 -> same("surelyToBlame()", star::surelyToBlame, model::surelyToBlame);
            case 22 -> same("nightsToDoubt()", star::nightsToDoubt, model::nightsToDoubt);
            case 23 -> same("leftIfSmudged(" + set + ")", () -> star.leftIfSmudged(set),
                    () -> model.leftIfSmudged(set));
            case 24 -> same("bestNight()", star::bestNight, model::bestNight);
            case 25 -> same("wouldChange(" + set + ", " + smudged + ")", () -> star.wouldChange(set, smudged),
                    () -> model.wouldChange(set, smudged));
            default -> same("meanBlame()", star::meanBlame, model::meanBlame);
        }
        same("digest()", star::digest, model::digest);
    }

    private void same(String what, Supplier<?> got, Supplier<?> due) {
        calls++;
        CHECK.same(what, answer(got), answer(due));
    }

    private static Object answer(Supplier<?> call) {
        try {
            return call.get();
        } catch (RuntimeException e) {
            return e.getClass();
        }
    }

    /** Mostly a number from 0 to below the bound, now and then one beside it. */
    private int number(int bound) {
        int luck = pick(25);
        if (luck == 0) {
            return bound;
        }
        if (luck == 1) {
            return pick(2) == 0 ? -1 : Integer.MIN_VALUE + pick(Integer.MAX_VALUE);
        }
        return bound > 0 ? pick(bound) : 0;
    }

    private int pick(int bound) {
        seed = seed * 6364136223846793005L + 1442695040888963407L;
        return (int) ((seed >>> 33) % bound);
    }
}
