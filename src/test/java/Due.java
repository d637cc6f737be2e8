/** Compares answers with those that are due, and counts what is wrong. */
final class Due {
    interface Call {
        Object answer();
    }

    private static int asked = 0;
    private static int wrong = 0;

    private Due() {
    }

    static void is(Object want, String what, Call call) {
        Object got;
        try {
            got = call.answer();
        } catch (RuntimeException e) {
            got = e.getClass().getSimpleName();
        }
        asked++;
        if (!want.equals(got)) {
            wrong++;
            System.out.println(what + " answered " + got + ", due is " + want);
        }
    }

    static void index(String what, Call call) {
        is("IndexOutOfBoundsException", what, call);
    }

    static void argument(String what, Call call) {
        is("IllegalArgumentException", what, call);
    }

    static void noElement(String what, Call call) {
        is("NoSuchElementException", what, call);
    }

    static void state(String what, Call call) {
        is("IllegalStateException", what, call);
    }

    static void arithmetic(String what, Call call) {
        is("ArithmeticException", what, call);
    }

    static void refused(RollerHorses x, int reason, int detail, String what, Call call) {
        is("UnsupportedOperationException", what, call);
        is(reason, what + ", reason", () -> x.refusal(false));
        is(detail, what + ", detail", () -> x.refusal(true));
    }

    static int read(RollerHorses x, String text) {
        for (int i = 0; i < text.length(); i++) {
            x.append(text.charAt(i));
        }
        return x.read();
    }

    static void end() {
        System.out.println(asked - wrong + " of " + asked + " answers are as due");
        if (wrong != 0) {
            System.exit(1);
        }
    }
}
