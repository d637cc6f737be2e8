import java.lang.reflect.InvocationTargetException;
import java.lang.reflect.Method;
import java.nio.file.Files;
import java.nio.file.Path;
import java.util.ArrayList;
import java.util.Arrays;
import java.util.HashMap;
import java.util.List;
import java.util.Map;
import java.util.TreeSet;

/**
 * Runs of 512 calls by a fixed sequence of numbers, each made to the class and to the model, which
 * is the document a second time: each call answers or throws the same. At the end all that the
 * document says can be answered or thrown has been met.
 */
public final class ModelRunsTest {
    private static final Path DOCUMENT = Path.of("..", "shared", "DOC.md");
    private static final int RUNS = 1440;
    private static final int CALLS = 512;
    private static final int ENOUGH = 5;

    private static final String[] WEATHER_AND_PITCHES = {"rain", "light", "bell", "weather", "pitch", "cover", "pitchOf",
        "sign"};
    private static final String[] HORSES_AND_UMPIRES = {"horse", "boots", "horseOf", "roll", "bestHorse", "umpire", "call",
        "fitIn", "bestPitch"};
    private static final String[] INNINGS = {"innings", "bowl", "would", "end", "inningsOf", "balls", "runsAgain", "ranked",
        "pass"};
    private static final String[] TEXTS_AND_ACCOUNTS = {"append", "read", "errorPosition", "refusal", "account", "isWell",
        "meanRuns", "wickets", "undo", "save", "restore"};
    /** Calls that are made more often, so that runs come far; one of these lists a run. */
    private static final String[][] OFTEN = {{"roll", "roll", "pass"}, {"innings", "bowl", "bowl", "pass"},
        {"text", "text", "pass"}, {"text", "text", "rain", "roll"}, {"roll", "innings", "bowl", "cover", "pass", "undo"},
        {"undo", "save", "restore", "read"}, {"rain", "light", "pass", "call", "fitIn", "bestPitch"},
        {"horse", "roll", "bestHorse", "pass"}, {"innings", "bowl", "end", "ranked"}};
    private static final int[] ODD = {Integer.MIN_VALUE, -1000000007, -25, -2, -1, 1000, 65536, Integer.MAX_VALUE};

    private static final Map<String, Method> OF_CLASS = methods(RollerHorses.class);
    private static final Map<String, Method> OF_MODEL = methods(Model.class);
    private static final Map<String, Integer> MET = new HashMap<>();

    private static long seed;

    /** One run: an object of the class, a model, and the calls that were made to both. */
    private static final class Run {
        final RollerHorses x = new RollerHorses();
        final Model model = new Model();
        final List<String> calls = new ArrayList<>();
        boolean isWrong = false;

        boolean isOn() {
            return !isWrong && calls.size() < CALLS;
        }

        void call(String name, Object... arguments) {
            if (!isOn()) {
                return;
            }
            String call = name + Arrays.toString(arguments);
            calls.add(call);
            Object due = answer(OF_MODEL.get(name), model, arguments);
            Object got = answer(OF_CLASS.get(name), x, arguments);
            Due.is(due, "call " + calls.size() + " of its run, " + call, () -> got);
            if (!due.equals(got)) {
                isWrong = true;
                System.out.println("the run: " + calls);
            }
            meet(name, due);
        }

        private void meet(String name, Object due) {
            MET.merge(name + " " + (due instanceof String ? due : "answers"), 1, Integer::sum);
            if (due.equals("UnsupportedOperationException")) {
                MET.merge(name + " reason " + model.refusal(false), 1, Integer::sum);
                Due.is(model.refusal(false) + "/" + model.refusal(true), "the reason of " + calls.get(calls.size() - 1),
                    () -> x.refusal(false) + "/" + x.refusal(true));
            } else if (name.equals("call") || name.equals("sign") || name.equals("fitIn") || name.equals("read")) {
                MET.merge(name + " = " + due, 1, Integer::sum);
            }
        }
    }

    public static void main(String[] args) throws Exception {
        for (int r = 0; r < RUNS; r++) {
            seed = 104729L * r + 11;
            run(OFTEN[r % OFTEN.length], r % 3);
        }
        allIsMet();
        Due.end();
    }

    private static Map<String, Method> methods(Class<?> kind) {
        Map<String, Method> methods = new HashMap<>();
        for (Method method : kind.getDeclaredMethods()) {
            methods.put(method.getName(), method);
        }
        return methods;
    }

    /** The answer, or the name of what was thrown; the model's refusals bear a name of their own. */
    private static Object answer(Method method, Object on, Object... arguments) {
        try {
            return method.invoke(on, arguments);
        } catch (InvocationTargetException e) {
            String name = e.getCause().getClass().getSimpleName();
            return name.equals("Refused") ? "UnsupportedOperationException" : name;
        } catch (IllegalAccessException e) {
            throw new IllegalStateException(e);
        }
    }

    private static int number(int bound) {
        seed = seed * 6364136223846793005L + 1442695040888963407L;
        return (int) ((seed >>> 33) % bound);
    }

    private static boolean oneIn(int many) {
        return number(many) == 0;
    }

    private static <T> T one(T[] all) {
        return all[number(all.length)];
    }

    /** Mostly a number from the least to the most, now and then one beside them, and rarely an odd one. */
    private static int from(int least, int most) {
        if (oneIn(25)) {
            return oneIn(3) ? ODD[number(ODD.length)] : oneIn(2) ? least - 1 : most + 1;
        }
        return most < least ? least : least + number(most - least + 1);
    }

    private static void run(String[] often, int beginning) {
        Run run = new Run();
        if (beginning > 0) {
            begin(run, beginning);
        }
        while (run.isOn()) {
            switch (number(6)) {
                case 0: make(run, one(WEATHER_AND_PITCHES)); break;
                case 1: make(run, one(HORSES_AND_UMPIRES)); break;
                case 2: make(run, one(INNINGS)); break;
                case 3: make(run, one(TEXTS_AND_ACCOUNTS)); break;
                default: make(run, one(often)); break;
            }
        }
        Due.is(run.model.account(16), "the changes that can be undone", () -> run.x.account(16));
    }

    private static void begin(Run run, int beginning) {
        for (int p = 0; p < 2 * beginning; p++) {
            run.call("pitch");
            run.call("horse", 1 + number(9), oneIn(2));
        }
        run.call("umpire", 1 + number(4));
        if (oneIn(3)) {
            run.call("rain", 6 + number(3), 9);
            run.call("rain", 9 + number(3), 9);
        }
        run.call("pass", 6 + number(3));
        if (beginning == 2) {
            run.call("save");
        }
    }

    private static void make(Run run, String name) {
        Model now = run.model;
        int pitch = from(0, now.account(2) - 1);
        int horse = from(0, now.account(4) - 1);
        int umpire = from(0, now.account(7) - 1);
        int innings = oneIn(3) ? from(0, now.account(8) - 1) : now.account(8) - 1;
        boolean is = oneIn(2);
        switch (name) {
            case "rain": run.call(name, from(0, 23), oneIn(4) ? from(0, 9) : 0); break;
            case "light": run.call(name, from(0, 23), from(0, 9)); break;
            case "bell": run.call(name, from(0, 23)); break;
            case "weather": run.call(name, from(0, 23), is); break;
            case "cover": run.call(name, pitch, oneIn(4)); break;
            case "pitchOf": run.call(name, pitch, from(0, 6)); break;
            case "sign":
            case "bestHorse": run.call(name, pitch); break;
            case "horse": run.call(name, from(1, 9), is); break;
            case "boots": run.call(name, horse, is); break;
            case "horseOf": run.call(name, horse, from(0, 5)); break;
            case "roll": run.call(name, horse, pitch, from(1, 6)); break;
            case "umpire": run.call(name, from(1, 9)); break;
            case "call":
            case "fitIn": run.call(name, umpire, pitch); break;
            case "bestPitch": run.call(name, umpire); break;
            case "innings": run.call(name, pitch, umpire, oneIn(2) ? from(6, 12) : from(6, 120)); break;
            case "bowl":
            case "would": run.call(name, innings, from(1, oneIn(2) ? 6 : 36)); break;
            case "end":
            case "runsAgain": run.call(name, innings); break;
            case "inningsOf": run.call(name, innings, from(0, 6)); break;
            case "balls": run.call(name, innings, from(0, 6)); break;
            case "ranked": run.call(name, from(0, now.account(8) - 1)); break;
            case "pass": run.call(name, oneIn(4) ? from(1, 72) : from(1, 3)); break;
            case "append": run.call(name, oneIn(9) ? (char) number(65536) : sign("rbcueh0123456789:+*;")); break;
            case "text": text(run); break;
            case "refusal": run.call(name, is); break;
            case "account": run.call(name, from(0, 16)); break;
            case "undo": undo(run); break;
            case "restore": restore(run); break;
            default: run.call(name); break;
        }
    }

    /** Now and then all that can be undone is, and once more. */
    private static void undo(Run run) {
        for (int u = oneIn(12) ? 9 : 1; u > 0; u--) {
            run.call("undo");
        }
    }

    /** A restore forgets much, so that it is not made each time. */
    private static void restore(Run run) {
        if (oneIn(4)) {
            run.call("restore");
        }
    }

    /** A text of some orders, now and then with a sign too many, too few or another, or with more than 60. */
    private static void text(Run run) {
        StringBuilder text = new StringBuilder(oneIn(8) ? "h6;r0:0+6;h6;r0:0+6;h6;" : "");
        for (int orders = oneIn(10) ? 20 : 1 + number(5); orders > 0; orders--) {
            text.append(order(run.model)).append(orders > 1 ? ";" : "");
        }
        if (oneIn(4)) {
            int place = number(text.length());
            String sign = oneIn(3) ? "" : "" + sign("rbcueh05:+*;x");
            text.replace(place, place + number(2), sign);
        }
        for (int i = 0; i < text.length(); i++) {
            run.call("append", text.charAt(i));
        }
        run.call("read");
        run.call("errorPosition");
    }

    private static char sign(String signs) {
        return signs.charAt(number(signs.length()));
    }

    private static String order(Model now) {
        int pitch = digit(now.account(2));
        int innings = oneIn(8) ? number(13) : Math.max(0, now.account(8) - 1);
        switch (number(6)) {
            case 0: return "r" + digit(now.account(4)) + ":" + pitch + "+" + (oneIn(12) ? number(10) : 1 + number(6));
            case 1: return "b" + twoDigits(innings) + "*" + twoDigits(oneIn(12) ? number(100) : balls());
            case 2: return "c" + pitch;
            case 3: return "u" + pitch;
            case 4: return "e" + twoDigits(innings);
            default: return "h" + twoDigits(oneIn(12) ? number(100) : 1 + number(8));
        }
    }

    private static int balls() {
        return 1 + number(oneIn(3) ? 36 : 9);
    }

    private static int digit(int count) {
        return oneIn(15) || count == 0 ? number(10) : number(count);
    }

    private static String twoDigits(int number) {
        return number < 10 && oneIn(3) ? "0" + number : "" + number;
    }

    /** What each method names as thrown, each of its reasons, and each call, sign and number of orders or hours. */
    private static void allIsMet() throws Exception {
        TreeSet<String> due = new TreeSet<>();
        for (Method method : RollerHorses.class.getMethods()) {
            if (method.getDeclaringClass() == RollerHorses.class) {
                due.add(method.getName() + " answers");
                for (Class<?> thrown : method.getExceptionTypes()) {
                    due.add(method.getName() + " " + thrown.getSimpleName());
                }
            }
        }
        due.addAll(reasons());
        for (int call = 0; call <= 6; call++) {
            due.add("call = " + call);
        }
        for (int orders = 1; orders <= 5; orders++) {
            due.add("read = " + orders);
        }
        for (char sign : "chiwd".toCharArray()) {
            due.add("sign = " + sign);
        }
        for (int hours = 0; hours <= 12; hours++) {
            due.add("fitIn = " + hours);
        }
        for (String what : due) {
            Due.is(true, "met often enough: " + what, () -> MET.getOrDefault(what, 0) >= ENOUGH);
        }
    }

    /** From the document: the reasons of each method, and of read those of the methods for its orders. */
    private static List<String> reasons() throws Exception {
        List<String> reasons = new ArrayList<>();
        String name = "";
        for (String line : Files.readAllLines(DOCUMENT)) {
            if (line.startsWith("## Promise ")) {
                name = line.replaceAll(".*: ", "");
            }
            if (line.startsWith("Throws `UnsupportedOperationException` if it is refused for reason ")) {
                for (String reason : line.replaceAll(".*reason ([^;]*);.*", "$1").split("\\D+")) {
                    reasons.add(name + " reason " + reason);
                }
            }
        }
        for (int reason = 2; reason <= 10; reason++) {
            reasons.add("read reason " + reason);
        }
        Due.is(27, "the reasons of the document", () -> reasons.size());
        return reasons;
    }
}
