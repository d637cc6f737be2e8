import java.util.ArrayList;
import java.util.List;

/**
 * Runs of calls by a fixed sequence of numbers: each call throws only what the document names, what
 * throws leaves the state as it is, a change can be undone, and two ways lead to the same answers.
 * The state is looked at on an object of its own, to which the same calls were made, so that no
 * object is used for more calls than the document speaks of.
 */
public final class RandomRunsTest {
    private static final int RUNS = 120;
    private static final int STEPS = 40;

    private static long seed;

    interface Step {
        void on(RollerHorses x);
    }

    public static void main(String[] args) {
        for (int run = 0; run < RUNS; run++) {
            seed = 7919L * run + 17;
            run("run " + run, beginning(run));
        }
        Due.end();
    }

    private static int number(int bound) {
        seed = seed * 6364136223846793005L + 1442695040888963407L;
        return (int) ((seed >>> 33) % bound);
    }

    private static List<Step> beginning(int run) {
        List<Step> steps = new ArrayList<>();
        for (int p = 0; p <= run % 4; p++) {
            int strength = 1 + number(9);
            boolean isBooted = number(2) == 0;
            steps.add(x -> x.pitch());
            steps.add(x -> x.horse(strength, isBooted));
        }
        int strictness = 1 + number(4);
        int hours = 6 + number(6);
        steps.add(x -> x.umpire(strictness));
        steps.add(x -> x.pass(hours));
        return steps;
    }

    private static void run(String name, List<Step> steps) {
        String before = State.of(replayed(steps));
        for (int s = 0; s < STEPS; s++) {
            String where = name + ", step " + s;
            Step step = randomStep();
            RollerHorses x = replayed(steps);
            boolean isFine = isCarriedOut(step, x, where);
            steps.add(step);
            String behind = State.of(replayed(steps));
            if (isFine) {
                checkUndo(steps, before, where);
                checkAnswers(x, where);
            } else {
                Due.is(before, where + " leaves all as it is", () -> State.of(replayed(steps)));
            }
            before = behind;
        }
        checkFitIn(steps, name);
        checkRestore(steps, before, name);
    }

    private static RollerHorses replayed(List<Step> steps) {
        RollerHorses x = new RollerHorses();
        for (Step step : steps) {
            isCarriedOut(step, x, "again");
        }
        return x;
    }

    /** A kind that is a subclass of the document's exceptions would be the machine's own. */
    private static boolean isCarriedOut(Step step, RollerHorses x, String where) {
        try {
            step.on(x);
            return true;
        } catch (RuntimeException e) {
            Class<?> kind = e.getClass();
            boolean isOfTheDocument = kind == UnsupportedOperationException.class
                || kind == IllegalArgumentException.class || kind == IndexOutOfBoundsException.class;
            Due.is(true, where + " throws " + kind, () -> isOfTheDocument);
            return false;
        }
    }

    private static Step randomStep() {
        int a = number(26) - 1;
        int b = number(12) - 1;
        int c = number(38);
        boolean isOn = number(3) == 0;
        String text = text();
        switch (number(17)) {
            case 0: return x -> x.rain(a, Math.max(0, b - 5));
            case 1: return x -> x.light(a, b);
            case 2: return x -> x.bell(a);
            case 3: return x -> x.pitch();
            case 4: return x -> x.cover(b % 5, isOn);
            case 5: return x -> x.horse(b, isOn);
            case 6: return x -> x.boots(b % 6, isOn);
            case 7:
            case 8: return x -> x.roll(a % 6, b % 5, c % 8);
            case 9: return x -> x.umpire(b);
            case 10:
            case 11: return x -> x.innings(a % 4, b % 2, 5 + 3 * c);
            case 12:
            case 13: return x -> bowlAsWouldSays(x, x.account(8) - (isOn ? 2 : 1), c);
            case 14: return x -> x.end(b);
            case 15: return x -> x.pass(isOn ? 2 * c : c % 6);
            default: return x -> Due.read(x, text);
        }
    }

    private static void bowlAsWouldSays(RollerHorses x, int innings, int balls) {
        int would = x.would(innings, balls);
        int runs = x.bowl(innings, balls);
        Due.is(runs, "21: would " + balls, () -> would);
    }

    private static String text() {
        StringBuilder text = new StringBuilder();
        for (int orders = number(3); orders >= 0; orders--) {
            switch (number(6)) {
                case 0:
                    text.append('r').append(number(6)).append(':').append(number(5)).append('+').append(number(8));
                    break;
                case 1:
                    text.append('b').append(number(5)).append('*').append(number(20));
                    break;
                case 2:
                    text.append('c').append(number(4));
                    break;
                case 3:
                    text.append('e').append(number(5));
                    break;
                case 4:
                    text.append('u').append(number(4));
                    break;
                default:
                    text.append('h').append(1 + number(10));
                    break;
            }
            text.append(orders > 0 ? ";" : "");
        }
        return text.toString();
    }

    private static void checkUndo(List<Step> steps, String before, String where) {
        RollerHorses x = replayed(steps);
        int changes = x.account(16);
        Due.is(changes - 1, where + " is undone", () -> x.undo());
        Due.is(withoutChanges(before), where + " is undone", () -> withoutChanges(State.of(x)));
    }

    private static String withoutChanges(String state) {
        return state.replaceAll("undone: \\d+", "");
    }

    private static void checkAnswers(RollerHorses x, String where) {
        int count = x.account(8);
        int runs = 0;
        int balls = 0;
        for (int i = 0; i < count; i++) {
            int innings = i;
            int runsOfIt = x.inningsOf(i, 4);
            Due.is(runsOfIt, where + ", runsAgain", () -> x.runsAgain(innings));
            runs += runsOfIt;
            balls += x.inningsOf(i, 3);
        }
        Object mean = count == 0 ? "ArithmeticException" : (Object) ((double) runs / count);
        Object share = balls == 0 ? "ArithmeticException" : (Object) ((float) x.account(12) / balls);
        Due.is(runs, where + ", runs", () -> x.account(11));
        Due.is(balls, where + ", balls", () -> x.account(10));
        Due.is(mean, where + ", meanRuns", () -> x.meanRuns());
        Due.is(share, where + ", wickets", () -> x.wickets());
        Due.is(true, where + ", isWell", () -> x.isWell());
    }

    /** By a second way: hour for hour goes by until the umpire calls the pitch fit. */
    private static void checkFitIn(List<Step> steps, String name) {
        RollerHorses asked = replayed(steps);
        RollerHorses x = replayed(steps);
        Object due = "NoSuchElementException";
        for (int hours = 0; hours <= 48; hours++) {
            if (x.call(0, 0) == 0) {
                due = hours;
                break;
            }
            x.pass(1);
        }
        Due.is(due, name + ", fitIn", () -> asked.fitIn(0, 0));
    }

    private static void checkRestore(List<Step> steps, String before, String name) {
        RollerHorses x = replayed(steps);
        x.save();
        for (int s = 0; s < 20; s++) {
            isCarriedOut(randomStep(), x, name + ", behind save");
        }
        x.restore();
        Due.is(0, name + ", restore forgets all", () -> x.account(16));
        Due.is(withoutChanges(before), name + ", restore", () -> withoutChanges(State.of(x)));
    }
}
