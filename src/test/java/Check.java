import java.util.Objects;
import java.util.function.IntFunction;

/** Counts what is right and what is wrong, and says what is wrong. */
final class Check {
    private int right;
    private int wrong;
    private String promise = "";

    void promise(String name) {
        promise = name;
    }

    void same(String what, Object got, Object due) {
        if (Objects.equals(got, due)) {
            right++;
        } else {
            wrong++;
            System.out.println(promise + ": " + what + " answered " + got + ", due is " + due);
        }
    }

    void raises(String what, Class<? extends RuntimeException> due, Runnable call) {
        same(what + " throws", thrownBy(call), due);
    }

    /** A call that throws must throw what is due and leave every answer of the object as it was. */
    void refuses(String what, SmudgedStar star, Class<? extends RuntimeException> due, Runnable call) {
        String before = Answers.of(star);
        raises(what, due, call);
        same("after " + what + " everything", Answers.of(star), before);
    }

    /** No number but 0 to count - 1 is taken. */
    void refusesWrongNumbers(SmudgedStar star, int promiseNumber, String name, int count, IntFunction<?> call) {
        promise("promise " + promiseNumber);
        for (int wrong : new int[] {-1, count, count + 1, Integer.MIN_VALUE, Integer.MAX_VALUE}) {
            refuses(name + "(" + wrong + ")", star, IndexOutOfBoundsException.class, () -> call.apply(wrong));
        }
    }

    private static Class<?> thrownBy(Runnable call) {
        try {
            call.run();
        } catch (RuntimeException e) {
            return e.getClass();
        }
        return null;
    }

    /** Ends the program with exit code 1 if anything was wrong. */
    void end() {
        System.out.println("  " + right + " answers right, " + wrong + " wrong");
        if (wrong > 0) {
            System.exit(1);
        }
    }
}
