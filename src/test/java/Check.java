import java.util.Objects;
import java.util.function.Supplier;

/** Counts what is right and what is wrong, and says what is wrong. */
final class Check {
    /** A call of an object. */
    interface Call {
        Object on(SmudgedStar star);
    }

    /** A call of an object that is told one number: a thing, a night, an astronomer or a set. */
    interface NumberCall {
        Object on(SmudgedStar star, int number);
    }

    private int right;
    private int wrong;
    private String held = "";

    /** Names the promise that the checks behind it hold. */
    void promise(String name) {
        held = name;
    }

    /** Names the promise, or the Terms, and the very sentence of the document that the checks behind it hold. */
    void sentence(String place, String words) {
        held = place + ", \"" + words + "\"";
    }

    void same(String what, Object got, Object due) {
        if (Objects.equals(got, due)) {
            right++;
        } else {
            wrong++;
            System.out.println(held + ": " + what + " answered " + got + ", due is " + due);
        }
    }

    void raises(String what, SmudgedStar star, Class<? extends RuntimeException> due, Call call) {
        same(what + " throws", thrownBy(star, call), due);
    }

    /** A call on an object of this make throws what is due, and nothing of the object is changed by it. */
    void refuses(String what, Supplier<SmudgedStar> make, Class<? extends RuntimeException> due, Call call) {
        SmudgedStar called = make.get();
        raises(what, called, due, call);
        sameAsUncalled(what, called, make.get());
    }

    /** A call on an object of this make answers what is due, and nothing of the object is changed by it. */
    void onlyAnswers(String what, Supplier<SmudgedStar> make, Object due, Call call) {
        SmudgedStar called = make.get();
        same(what, call.on(called), due);
        sameAsUncalled(what, called, make.get());
    }

    private void sameAsUncalled(String what, SmudgedStar called, SmudgedStar uncalled) {
        same("after " + what + " everything", Answers.of(called), Answers.of(uncalled));
        same("after " + what + " what follows", Answers.goneOn(called), Answers.goneOn(uncalled));
    }

    /** Of the things, nights or astronomers that an object of this make has, 0 to count - 1 are taken, no others. */
    void takesNumbersBelow(int count, String name, Supplier<SmudgedStar> make, NumberCall call) {
        takesFromTo(0, count - 1, name, make, IndexOutOfBoundsException.class, call);
    }

    /** With no things to 8 things each set from the least one to that of all things is taken, and no others. */
    void takesSetsFrom(int least, String name, NumberCall call) {
        for (int things = 0; things <= 8; things++) {
            int count = things;
            String with = name + " with " + things + " things";
            takesFromTo(least, (1 << things) - 1, with, () -> Make.withAstronomers(count, 1),
                    IllegalArgumentException.class, call);
        }
    }

    void takesFromTo(int least, int most, String name, Supplier<SmudgedStar> make,
            Class<? extends RuntimeException> due, NumberCall call) {
        if (least <= most) {
            raises(name + " of " + least, make.get(), null, star -> call.on(star, least));
            raises(name + " of " + most, make.get(), null, star -> call.on(star, most));
        }
        // 32 and 256 beside a number are where a shift or a mask would lose the difference.
        int[] wrongNumbers = {least - 1, most + 1, most + 2, least - 32, most + 32, least - 256, most + 256,
            Integer.MIN_VALUE, Integer.MAX_VALUE};
        for (int number : wrongNumbers) {
            refuses(name + " of " + number, make, due, star -> call.on(star, number));
        }
    }

    private static Class<?> thrownBy(SmudgedStar star, Call call) {
        try {
            call.on(star);
        } catch (RuntimeException e) {
            return e.getClass();
        }
        return null;
    }

    /** Ends the program with exit code 1 if anything was wrong. */
    void end() {
        System.out.println("  " + right + " answers right, " + wrong + " wrong");
        if (wrong > 0) {
            System.exit(1);
        }
    }
}
