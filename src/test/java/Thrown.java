/**
 * Calls that throw: what they throw, that the state, what can be undone, the snapshot and the input
 * are left as they were, and what is kept of the reason and the error position.
 */
final class Thrown {
    interface Maker {
        RollerHorses make();
    }

    interface Step {
        Object on(RollerHorses x);
    }

    private static final int NO_REASON = 0;

    private Thrown() {
    }

    static void index(String what, Maker ground, Step call) {
        check("IndexOutOfBoundsException", what, ground, call, NO_REASON, 0);
    }

    static void argument(String what, Maker ground, Step call) {
        check("IllegalArgumentException", what, ground, call, NO_REASON, 0);
    }

    static void noElement(String what, Maker ground, Step call) {
        check("NoSuchElementException", what, ground, call, NO_REASON, 0);
    }

    static void state(String what, Maker ground, Step call) {
        check("IllegalStateException", what, ground, call, NO_REASON, 0);
    }

    static void arithmetic(String what, Maker ground, Step call) {
        check("ArithmeticException", what, ground, call, NO_REASON, 0);
    }

    static void refused(String what, Maker ground, int reason, int detail, Step call) {
        check("UnsupportedOperationException", what, ground, call, reason, detail);
    }

    /** A text with an error at this position. */
    static void readError(String what, Maker ground, String text, int position) {
        checkRead("IllegalArgumentException", what, ground, text, position, NO_REASON, 0);
    }

    /** A text without an error, an order of which throws another exception than for a refusal. */
    static void readArgument(String what, Maker ground, String text) {
        checkRead("IllegalArgumentException", what, ground, text, -1, NO_REASON, 0);
    }

    static void readRefused(String what, Maker ground, String text, int reason, int detail) {
        checkRead("UnsupportedOperationException", what, ground, text, -1, reason, detail);
    }

    private static void check(String kind, String what, Maker ground, Step call, int reason, int detail) {
        Maker primed = () -> primed(ground);
        RollerHorses x = primed.make();
        String reasonDue = reason == NO_REASON ? reasonOf(primed.make()) : reason + "/" + detail;
        Due.is(kind, what, () -> call.on(x));
        Due.is(reasonDue, what + ": the reason", () -> reasonOf(x));
        Due.is(1, what + ": the error position stays", () -> x.errorPosition());
        Due.is(1, what + ": the input stays", () -> x.account(15));
        left(what, primed, call);
        RollerHorses y = primed.make();
        attempt(call, y);
        Due.is(2, what + ": the input stays", () -> y.append('1'));
        Due.is(1, what + ": the text of the input stays", () -> y.read());
    }

    private static void checkRead(String kind, String what, Maker ground, String text, int position, int reason,
            int detail) {
        String label = what + " \"" + text + "\"";
        RollerHorses x = ground.make();
        String reasonDue = reason == NO_REASON ? reasonOf(ground.make()) : reason + "/" + detail;
        Due.is(kind, label, () -> Due.read(x, text));
        Due.is(position, label + ": the error position", () -> x.errorPosition());
        Due.is(reasonDue, label + ": the reason", () -> reasonOf(x));
        Due.is(0, label + ": the input is empty", () -> x.account(15));
        left(label, ground, y -> Due.read(y, text));
    }

    /** A ground with an error position of 1 and with "h" in the input. */
    private static RollerHorses primed(Maker ground) {
        RollerHorses x = ground.make();
        attempt(y -> Due.read(y, "hx"), x);
        x.append('h');
        return x;
    }

    private static void left(String what, Maker ground, Step call) {
        same(what + ": all stays", ground, call, x -> State.of(x));
        same(what + ": what can be undone stays", ground, call, x -> undone(x));
        same(what + ": the snapshot stays", ground, call, x -> restored(x));
    }

    private static void same(String what, Maker ground, Step call, Step look) {
        RollerHorses untried = ground.make();
        RollerHorses tried = ground.make();
        attempt(call, tried);
        Due.is(look.on(untried), what, () -> look.on(tried));
    }

    private static void attempt(Step call, RollerHorses x) {
        try {
            call.on(x);
        } catch (RuntimeException e) {
            // What is thrown is looked at elsewhere.
        }
    }

    private static String reasonOf(RollerHorses x) {
        try {
            return x.refusal(false) + "/" + x.refusal(true);
        } catch (java.util.NoSuchElementException e) {
            return "nothing was refused";
        }
    }

    private static String undone(RollerHorses x) {
        StringBuilder text = new StringBuilder();
        if (x.account(16) > 0) {
            x.undo();
            text.append(State.of(x));
        }
        while (x.account(16) > 0) {
            text.append("\nundo ").append(x.undo()).append(" to the hour ").append(x.account(0));
        }
        return text.toString();
    }

    private static String restored(RollerHorses x) {
        try {
            x.restore();
        } catch (IllegalStateException e) {
            return "no snapshot";
        }
        return State.of(x);
    }
}
