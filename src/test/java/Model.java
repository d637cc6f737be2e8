import java.util.ArrayList;
import java.util.Collections;
import java.util.Comparator;
import java.util.HashSet;
import java.util.List;
import java.util.NoSuchElementException;
import java.util.Set;
import java.util.regex.Matcher;
import java.util.regex.Pattern;

/**
 * The document a second time, written from its words alone and in another way than the class: the
 * ground is what its changes make of a new one, so that undo and restore carry out fewer changes or
 * other ones, from the first on. It has the face of the class; only speed was given up for it.
 */
final class Model {
    private static final Pattern ORDER =
        Pattern.compile("r(\\d):(\\d)\\+(\\d)|b(\\d\\d?)\\*(\\d\\d?)|c(\\d)|u(\\d)|e(\\d\\d?)|h(\\d\\d?)");
    private static final Pattern TEXT = Pattern.compile("(" + ORDER + ")(;(" + ORDER + "))*");

    /** A call that is refused, with what is kept of it. */
    private static final class Refused extends UnsupportedOperationException {
        private static final long serialVersionUID = 1;
        final int reason;
        final int detail;

        Refused(int reason, int detail) {
            this.reason = reason;
            this.detail = detail;
        }
    }

    /** Something that is done to a ground, and answered. */
    private interface Change {
        int on(Ground ground);
    }

    private Ground ground = new Ground();
    private List<Change> done = new ArrayList<>();
    private int undoable = 0;
    private List<Change> snapshot = null;
    private final StringBuilder input = new StringBuilder();
    private int errorAt = -1;
    private Refused refusal = null;

    private int change(Change change) {
        try {
            int answer = change.on(ground);
            done.add(change);
            undoable = Math.min(8, undoable + 1);
            return answer;
        } catch (Refused e) {
            refusal = e;
            throw e;
        }
    }

    private static Ground made(List<Change> changes) {
        Ground made = new Ground();
        for (Change change : changes) {
            change.on(made);
        }
        return made;
    }

    // Weather and pitches.

    int rain(int hour, int amount) {
        return change(g -> set(g.rain, hour, amount));
    }

    int light(int hour, int amount) {
        return change(g -> set(g.light, hour, amount));
    }

    private static int set(List<Integer> row, int hour, int amount) {
        index(row, hour);
        inRange(amount, 0, 9);
        return row.set(hour, amount);
    }

    int bell(int hour) {
        return change(g -> {
            index(g.rain, hour);
            int before = g.tea;
            g.tea = hour;
            return before;
        });
    }

    int weather(int hour, boolean isLight) {
        return index(isLight ? ground.light : ground.rain, hour);
    }

    int pitch() {
        return change(g -> add(g.pitches, new Pitch(), 4));
    }

    int cover(int pitch, boolean isOn) {
        return change(g -> g.cover(pitch, isOn));
    }

    int pitchOf(int pitch, int what) {
        Pitch p = index(ground.pitches, pitch);
        Played played = ground.on(p);
        Horse horse = ground.rolling(p);
        return numbers(what, p.wetness, p.hardness, p.ruts, p.isCovered ? 1 : 0, ground.horses.indexOf(horse),
            ground.innings.indexOf(played), ground.ballsOn(p));
    }

    char sign(int pitch) {
        Pitch p = index(ground.pitches, pitch);
        String signs = (p.isCovered ? "c" : "") + (ground.rolling(p) != null ? "h" : "") + (ground.on(p) != null ? "i" : "")
            + (p.wetness > 60 ? "w" : "") + "d";
        return signs.charAt(0);
    }

    // Horses and umpires.

    int horse(int strength, boolean isBooted) {
        return change(g -> {
            inRange(strength, 1, 9);
            return add(g.horses, new Horse(strength, isBooted), 5);
        });
    }

    int boots(int horse, boolean isOn) {
        return change(g -> {
            Horse h = index(g.horses, horse);
            refuse(h.hours > 0, 2, h.hours);
            h.isBooted = isOn;
            return count(g.horses, other -> other.isBooted);
        });
    }

    int horseOf(int horse, int what) {
        Horse h = index(ground.horses, horse);
        return numbers(what, h.strength, h.isBooted ? 1 : 0, h.tiredness, h.hours,
            h.hours > 0 ? ground.pitches.indexOf(h.pitch) : -1, h.rolledSoFar);
    }

    int roll(int horse, int pitch, int hours) {
        return change(g -> g.roll(horse, pitch, hours));
    }

    int bestHorse(int pitch) {
        index(ground.pitches, pitch);
        List<Horse> able = new ArrayList<>();
        for (Horse h : ground.horses) {
            try {
                made(done).roll(ground.horses.indexOf(h), pitch, 6);
                able.add(h);
            } catch (Refused e) {
                // It could not roll it now.
            }
        }
        able.sort(Comparator.comparing((Horse h) -> -h.strength).thenComparing(h -> h.tiredness));
        return ground.horses.indexOf(element(able, 0));
    }

    int umpire(int strictness) {
        return change(g -> {
            inRange(strictness, 1, 9);
            return add(g.umpires, strictness, 3);
        });
    }

    int call(int umpire, int pitch) {
        return ground.call(umpire, pitch);
    }

    int fitIn(int umpire, int pitch) {
        Ground later = made(done);
        for (int hours = 0; hours <= 48; hours++) {
            if (later.call(umpire, pitch) == 0) {
                return hours;
            }
            later.hourGoesBy();
        }
        throw new NoSuchElementException();
    }

    int bestPitch(int umpire) {
        index(ground.umpires, umpire);
        List<Pitch> fit = new ArrayList<>(ground.pitches);
        fit.removeIf(p -> ground.call(umpire, ground.pitches.indexOf(p)) != 0);
        fit.sort(Comparator.comparing((Pitch p) -> p.ruts - p.hardness));
        return ground.pitches.indexOf(element(fit, 0));
    }

    // Innings.

    int innings(int pitch, int umpire, int balls) {
        return change(g -> g.begin(pitch, umpire, balls));
    }

    int bowl(int innings, int balls) {
        return change(g -> g.bowl(innings, balls));
    }

    int would(int innings, int balls) {
        Played those = index(ground.innings, innings);
        inRange(balls, 1, 36);
        Ground then = made(done);
        then.ballsOf(then.innings.get(innings), balls);
        return then.innings.get(innings).runs() - those.runs();
    }

    int end(int innings) {
        return change(g -> g.end(innings));
    }

    int inningsOf(int innings, int what) {
        Played i = index(ground.innings, innings);
        return numbers(what, ground.pitches.indexOf(i.pitch), i.umpire, i.ballsInAll, i.worths.size(), i.runs(),
            i.wickets(), i.isOver() ? 1 : 0);
    }

    int balls(int innings, int worth) {
        Played i = index(ground.innings, innings);
        inRange(worth, 0, 6);
        return Collections.frequency(i.worths, worth);
    }

    int runsAgain(int innings) {
        return index(ground.innings, innings).runs();
    }

    int ranked(int place) {
        List<Played> order = new ArrayList<>(ground.innings);
        order.sort(Comparator.comparing((Played i) -> -i.runs()).thenComparing(i -> i.worths.size()));
        return ground.innings.indexOf(element(order, place));
    }

    int pass(int hours) {
        return change(g -> g.pass(hours));
    }

    // Texts, accounts, undo and snapshot.

    int append(char c) {
        if (input.length() == 60) {
            throw new IllegalStateException();
        }
        return input.append(c).length();
    }

    int read() {
        String text = input.toString();
        input.setLength(0);
        errorAt = errorOf(text);
        if (errorAt != -1) {
            throw new IllegalArgumentException();
        }
        String[] orders = text.split(";");
        try {
            Ground tried = made(done);
            for (String order : orders) {
                carryOut(tried, order);
            }
        } catch (IndexOutOfBoundsException e) {
            throw new IllegalArgumentException(e);
        } catch (Refused e) {
            refusal = e;
            throw e;
        }
        return change(g -> {
            for (String order : orders) {
                carryOut(g, order);
            }
            return orders.length;
        });
    }

    /** The longest beginning that can be continued to a text is found from its shortest ones on. */
    private static int errorOf(String text) {
        for (int length = 1; length <= text.length(); length++) {
            Matcher matcher = TEXT.matcher(text.substring(0, length));
            if (!matcher.matches() && !matcher.hitEnd()) {
                return length - 1;
            }
        }
        return TEXT.matcher(text).matches() ? -1 : text.length();
    }

    private static void carryOut(Ground g, String order) {
        Matcher m = ORDER.matcher(order);
        if (!m.matches()) {
            throw new AssertionError(order);
        }
        switch (order.charAt(0)) {
            case 'r': g.roll(number(m, 1), number(m, 2), number(m, 3)); break;
            case 'b': g.bowl(number(m, 4), number(m, 5)); break;
            case 'c': g.cover(number(m, 6), true); break;
            case 'u': g.cover(number(m, 7), false); break;
            case 'e': g.end(number(m, 8)); break;
            default: g.pass(number(m, 9)); break;
        }
    }

    private static int number(Matcher matcher, int group) {
        return Integer.parseInt(matcher.group(group));
    }

    int errorPosition() {
        return errorAt;
    }

    int refusal(boolean isDetail) {
        if (refusal == null) {
            throw new NoSuchElementException();
        }
        return isDetail ? refusal.detail : refusal.reason;
    }

    int account(int what) {
        Ground g = ground;
        int hours = 0;
        int wetness = 0;
        for (Horse h : g.horses) {
            hours += h.rolledSoFar;
        }
        for (Pitch p : g.pitches) {
            wetness += p.wetness;
        }
        return numbers(what, g.hour, g.tea, g.pitches.size(), count(g.pitches, p -> p.isCovered), g.horses.size(),
            count(g.horses, h -> h.hours > 0), count(g.horses, h -> h.isBooted), g.umpires.size(), g.innings.size(),
            count(g.innings, i -> i.isOver()), g.sum(0), g.sum(1), g.sum(2), hours, wetness, input.length(), undoable);
    }

    /** What the document calls well is so by how the model is made. */
    boolean isWell() {
        return true;
    }

    double meanRuns() {
        if (ground.innings.isEmpty()) {
            throw new ArithmeticException();
        }
        return (double) ground.sum(1) / (double) ground.innings.size();
    }

    float wickets() {
        if (ground.sum(0) == 0) {
            throw new ArithmeticException();
        }
        return (float) ground.sum(2) / (float) ground.sum(0);
    }

    int undo() {
        if (undoable == 0) {
            throw new IllegalStateException();
        }
        done.remove(done.size() - 1);
        ground = made(done);
        return --undoable;
    }

    int save() {
        snapshot = new ArrayList<>(done);
        return ground.hour;
    }

    int restore() {
        if (snapshot == null) {
            throw new IllegalStateException();
        }
        done = new ArrayList<>(snapshot);
        ground = made(done);
        undoable = 0;
        return ground.hour;
    }

    // What throws.

    private static <T> T index(List<T> all, int number) {
        if (number < 0 || number >= all.size()) {
            throw new IndexOutOfBoundsException();
        }
        return all.get(number);
    }

    private static <T> T element(List<T> all, int place) {
        if (place < 0 || place >= all.size()) {
            throw new NoSuchElementException();
        }
        return all.get(place);
    }

    private static void inRange(int value, int least, int most) {
        if (value < least || value > most) {
            throw new IllegalArgumentException();
        }
    }

    private static int numbers(int what, int... all) {
        inRange(what, 0, all.length - 1);
        return all[what];
    }

    private static void refuse(boolean applies, int reason, int detail) {
        if (applies) {
            throw new Refused(reason, detail);
        }
    }

    private static <T> int add(List<T> all, T one, int most) {
        refuse(all.size() == most, 1, most);
        all.add(one);
        return all.size() - 1;
    }

    private interface Test<T> {
        boolean isSo(T one);
    }

    private static <T> int count(List<T> all, Test<T> test) {
        int count = 0;
        for (T one : all) {
            count += test.isSo(one) ? 1 : 0;
        }
        return count;
    }

    private static final class Pitch {
        int wetness = 20;
        int hardness = 10;
        int ruts = 0;
        boolean isCovered = false;
    }

    private static final class Horse {
        final int strength;
        boolean isBooted;
        int tiredness = 0;
        int hours = 0;
        int rolledSoFar = 0;
        Pitch pitch = null;

        Horse(int strength, boolean isBooted) {
            this.strength = strength;
            this.isBooted = isBooted;
        }
    }

    private static final class Played {
        final Pitch pitch;
        final int umpire;
        final int ballsInAll;
        final List<Integer> worths = new ArrayList<>();
        boolean isEnded = false;

        Played(Pitch pitch, int umpire, int ballsInAll) {
            this.pitch = pitch;
            this.umpire = umpire;
            this.ballsInAll = ballsInAll;
        }

        int wickets() {
            return Collections.frequency(worths, 5);
        }

        int runs() {
            int runs = 0;
            for (int worth : worths) {
                runs += worth == 5 ? 0 : worth;
            }
            return runs;
        }

        boolean isOver() {
            return worths.size() == ballsInAll || wickets() == 10 || isEnded;
        }
    }

    private static final class Ground {
        int hour = 0;
        int tea = 16;
        final List<Integer> rain = new ArrayList<>(Collections.nCopies(24, 0));
        final List<Integer> light = new ArrayList<>(Collections.nCopies(24, 0));
        final List<Pitch> pitches = new ArrayList<>();
        final List<Horse> horses = new ArrayList<>();
        final List<Integer> umpires = new ArrayList<>();
        final List<Played> innings = new ArrayList<>();

        Ground() {
            Collections.fill(light.subList(6, 20), 7);
        }

        Horse rolling(Pitch pitch) {
            for (Horse h : horses) {
                if (h.hours > 0 && h.pitch == pitch) {
                    return h;
                }
            }
            return null;
        }

        Played on(Pitch pitch) {
            for (Played i : innings) {
                if (i.pitch == pitch && !i.isOver()) {
                    return i;
                }
            }
            return null;
        }

        int ballsOn(Pitch pitch) {
            int balls = 0;
            for (Played i : innings) {
                balls += i.pitch == pitch ? i.worths.size() : 0;
            }
            return balls;
        }

        /** Of all innings: 0 for the balls, 1 for the runs, 2 for the wickets. */
        int sum(int what) {
            int sum = 0;
            for (Played i : innings) {
                sum += what == 0 ? i.worths.size() : what == 1 ? i.runs() : i.wickets();
            }
            return sum;
        }

        int cover(int pitch, boolean isOn) {
            Pitch p = index(pitches, pitch);
            refuse(isOn && rolling(p) != null, 4, horses.indexOf(rolling(p)));
            p.isCovered = isOn;
            return p.wetness;
        }

        int roll(int horse, int pitch, int hours) {
            Horse h = index(horses, horse);
            Pitch p = index(pitches, pitch);
            inRange(hours, 1, 6);
            refuse(h.hours > 0, 2, h.hours);
            refuse(h.tiredness > 15, 3, h.tiredness);
            refuse(rolling(p) != null, 4, horses.indexOf(rolling(p)));
            refuse(on(p) != null, 5, innings.indexOf(on(p)));
            refuse(p.isCovered, 6, pitch);
            refuse(p.wetness > 60 && !h.isBooted, 7, p.wetness);
            h.pitch = p;
            h.hours = hours;
            int behind = p.hardness;
            for (int i = 0; i < hours; i++) {
                behind = Math.min(99, behind + h.strength);
            }
            return behind;
        }

        int call(int umpire, int pitch) {
            int strictness = index(umpires, umpire);
            Pitch p = index(pitches, pitch);
            Set<Integer> calls = new HashSet<>();
            calls.add(p.isCovered ? 6 : 0);
            calls.add(rolling(p) != null ? 5 : 0);
            calls.add(hour % 24 == tea ? 4 : 0);
            calls.add(rain.get(hour % 24) >= 1 ? 3 : 0);
            calls.add(light.get(hour % 24) <= 2 ? 2 : 0);
            calls.add(p.wetness + 5 * strictness > 60 ? 1 : 0);
            return Collections.max(calls);
        }

        int begin(int pitch, int umpire, int balls) {
            int call = call(umpire, pitch);
            inRange(balls, 6, 120);
            Pitch p = pitches.get(pitch);
            refuse(innings.size() == 12, 1, 12);
            refuse(on(p) != null, 5, innings.indexOf(on(p)));
            refuse(call != 0, 8, call);
            return add(innings, new Played(p, umpire, balls), 12);
        }

        int bowl(int number, int balls) {
            Played i = index(innings, number);
            inRange(balls, 1, 36);
            refuse(i.isOver(), 9, number);
            int left = i.ballsInAll - i.worths.size();
            refuse(left < balls, 10, left);
            int call = call(i.umpire, pitches.indexOf(i.pitch));
            refuse(call != 0, 8, call);
            int before = i.runs();
            ballsOf(i, balls);
            return i.runs() - before;
        }

        void ballsOf(Played i, int balls) {
            for (int b = 0; b < balls && !i.isOver(); b++) {
                int number = i.worths.size();
                i.worths.add((i.pitch.hardness + 3 * number + i.pitch.ruts) % 7);
                if ((number + 1) % 6 == 0) {
                    i.pitch.hardness = Math.max(0, i.pitch.hardness - 1);
                }
            }
        }

        int end(int number) {
            Played i = index(innings, number);
            refuse(i.isOver(), 9, number);
            i.isEnded = true;
            return i.runs();
        }

        int pass(int hours) {
            inRange(hours, 1, 72);
            int rolled = 0;
            for (int i = 0; i < hours; i++) {
                rolled += count(horses, h -> h.hours > 0);
                hourGoesBy();
            }
            return rolled;
        }

        void hourGoesBy() {
            for (Horse h : horses) {
                if (h.hours == 0) {
                    h.tiredness = Math.max(0, h.tiredness - 1);
                    continue;
                }
                Pitch p = h.pitch;
                p.hardness = Math.min(99, p.hardness + h.strength);
                p.wetness = Math.max(0, p.wetness - h.strength / 2);
                p.ruts = h.isBooted ? p.ruts : Math.min(99, p.ruts + p.wetness / 10 + 1);
                h.tiredness = Math.min(20, h.tiredness + 2);
                h.hours--;
                h.rolledSoFar++;
            }
            for (Pitch p : pitches) {
                if (!p.isCovered) {
                    p.wetness = Math.min(99, p.wetness + 4 * rain.get(hour % 24));
                    p.wetness = Math.max(0, p.wetness - light.get(hour % 24) / 2);
                }
            }
            hour++;
        }
    }
}
