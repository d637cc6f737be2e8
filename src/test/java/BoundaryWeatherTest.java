/** The boundary cases of promises 1 to 9; the remark of each method tells its sentence. */
public final class BoundaryWeatherTest {
    private static final int[] NO_HOURS = {Integer.MIN_VALUE, -25, -24, -1, 24, 25, 47, 48, Integer.MAX_VALUE};
    private static final int[] NO_AMOUNTS = {Integer.MIN_VALUE, -1, 10, Integer.MAX_VALUE};
    private static final int[] NO_PITCHES = {Integer.MIN_VALUE, -1, 4, 5, Integer.MAX_VALUE};

    public static void main(String[] args) {
        aNewGroundHasNothing();
        aNewGroundKnowsNoNumber();
        rainBefore();
        noSuchHourForRain();
        rainOutOfRange();
        lightBefore();
        noSuchHourForLight();
        lightOutOfRange();
        bellBefore();
        noSuchHourForTheBell();
        weatherOfAnHour();
        noSuchHourForWeather();
        pitchNumbers();
        pitchIsRefused();
        coverAnswersWetness();
        noSuchPitchToCover();
        coverIsRefused();
        pitchOfLeastAndMost();
        noSuchPitchToAsk();
        whatOfAPitch();
        signOfWetness();
        firstSignThatApplies();
        noSuchPitchForASign();
        Due.end();
    }

    /** Promise 1: "Creates a ground without pitches, horses, umpires and innings, in the hour 0." */
    private static void aNewGroundHasNothing() {
        for (int what = 0; what <= 16; what++) {
            int asked = what;
            Due.is(what == 1 ? 16 : 0, "1, new: account " + what, () -> new RollerHorses().account(asked));
        }
        Due.is(-1, "1, new: errorPosition", () -> new RollerHorses().errorPosition());
        Due.is(true, "1, new: isWell", () -> new RollerHorses().isWell());
        Due.is(0, "1, new: save", () -> new RollerHorses().save());
        Due.is(1, "1, new: append", () -> new RollerHorses().append('x'));
        Thrown.state("1, new: undo", RollerHorses::new, x -> x.undo());
        Thrown.state("1, new: restore", RollerHorses::new, x -> x.restore());
        Thrown.noElement("1, new: refusal", RollerHorses::new, x -> x.refusal(false));
        Thrown.noElement("1, new: refusal", RollerHorses::new, x -> x.refusal(true));
        Thrown.noElement("1, new: ranked", RollerHorses::new, x -> x.ranked(0));
        Thrown.arithmetic("1, new: meanRuns", RollerHorses::new, x -> x.meanRuns());
        Thrown.arithmetic("1, new: wickets", RollerHorses::new, x -> x.wickets());
        Thrown.readError("1, new: read", RollerHorses::new, "", 0);
    }

    /** Promise 1: "without pitches, horses, umpires and innings": also the number 0 is none of them. */
    private static void aNewGroundKnowsNoNumber() {
        Thrown.index("1, new: cover", RollerHorses::new, x -> x.cover(0, true));
        Thrown.index("1, new: cover", RollerHorses::new, x -> x.cover(0, false));
        Thrown.index("1, new: pitchOf", RollerHorses::new, x -> x.pitchOf(0, 0));
        Thrown.index("1, new: sign", RollerHorses::new, x -> x.sign(0));
        Thrown.index("1, new: boots", RollerHorses::new, x -> x.boots(0, true));
        Thrown.index("1, new: horseOf", RollerHorses::new, x -> x.horseOf(0, 0));
        Thrown.index("1, new: roll", RollerHorses::new, x -> x.roll(0, 0, 1));
        Thrown.index("1, new: bestHorse", RollerHorses::new, x -> x.bestHorse(0));
        Thrown.index("1, new: call", RollerHorses::new, x -> x.call(0, 0));
        Thrown.index("1, new: fitIn", RollerHorses::new, x -> x.fitIn(0, 0));
        Thrown.index("1, new: bestPitch", RollerHorses::new, x -> x.bestPitch(0));
        Thrown.index("1, new: innings", RollerHorses::new, x -> x.innings(0, 0, 6));
        Thrown.index("1, new: bowl", RollerHorses::new, x -> x.bowl(0, 1));
        Thrown.index("1, new: would", RollerHorses::new, x -> x.would(0, 1));
        Thrown.index("1, new: end", RollerHorses::new, x -> x.end(0));
        Thrown.index("1, new: inningsOf", RollerHorses::new, x -> x.inningsOf(0, 0));
        Thrown.index("1, new: balls", RollerHorses::new, x -> x.balls(0, 0));
        Thrown.index("1, new: runsAgain", RollerHorses::new, x -> x.runsAgain(0));
    }

    /** Promise 2: "Returns the rain before", for the first and the last hour, the least and the most rain. */
    private static void rainBefore() {
        for (int hour : new int[] {0, 1, 22, 23}) {
            RollerHorses x = new RollerHorses();
            Due.is(0, "2, the rain before of " + hour, () -> x.rain(hour, 9));
            Due.is(9, "2, the rain before of " + hour, () -> x.rain(hour, 9));
            Due.is(9, "2, the rain before of " + hour, () -> x.rain(hour, 0));
            Due.is(0, "2, the rain before of " + hour, () -> x.rain(hour, 1));
            Due.is(1, "2, the rain before of " + hour, () -> x.rain(hour, 8));
            for (int other = 0; other < 24; other++) {
                int asked = other;
                Due.is(other == hour ? 8 : 0, "2, only this hour: " + other, () -> x.weather(asked, false));
            }
        }
    }

    /** Promise 2: "if there is no such hour of the day", also ahead of the rain, and in hours of later days. */
    private static void noSuchHourForRain() {
        for (int hour : NO_HOURS) {
            Thrown.index("2, no such hour: " + hour, RollerHorses::new, x -> x.rain(hour, 9));
            Thrown.index("2, no such hour, and out of range: " + hour, RollerHorses::new, x -> x.rain(hour, 10));
            Thrown.index("2, no such hour, and out of range: " + hour, RollerHorses::new, x -> x.rain(hour, -1));
        }
        Thrown.index("2, no such hour of the day, in the hour 30", () -> nextDay(), x -> x.rain(30, 1));
        RollerHorses x = nextDay();
        x.rain(6, 1);
        Due.is(3, "2, the hour 30 is the hour 6 of the day", () -> x.call(0, 0));
    }

    private static RollerHorses nextDay() {
        RollerHorses x = Grounds.playable();
        x.pass(24);
        return x;
    }

    /** Promise 2: "if the rain is out of range". */
    private static void rainOutOfRange() {
        for (int amount : NO_AMOUNTS) {
            Thrown.argument("2, out of range: " + amount, () -> Grounds.playable(), x -> x.rain(0, amount));
            Thrown.argument("2, out of range: " + amount, () -> Grounds.playable(), x -> x.rain(23, amount));
        }
    }

    /** Promise 3: "Returns the light before", at first 7 from 6 to 19 and 0 for the others. */
    private static void lightBefore() {
        for (int hour : new int[] {0, 5, 6, 19, 20, 23}) {
            RollerHorses x = new RollerHorses();
            Due.is(hour >= 6 && hour <= 19 ? 7 : 0, "3, the light before of " + hour, () -> x.light(hour, 9));
            Due.is(9, "3, the light before of " + hour, () -> x.light(hour, 9));
            Due.is(9, "3, the light before of " + hour, () -> x.light(hour, 0));
            Due.is(0, "3, the light before of " + hour, () -> x.light(hour, 1));
            Due.is(1, "3, the light before of " + hour, () -> x.light(hour, 8));
            for (int other = 0; other < 24; other++) {
                int asked = other;
                int due = other == hour ? 8 : other >= 6 && other <= 19 ? 7 : 0;
                Due.is(due, "3, only this hour: " + other, () -> x.weather(asked, true));
            }
        }
    }

    /** Promise 3: "if there is no such hour of the day", also ahead of the light. */
    private static void noSuchHourForLight() {
        for (int hour : NO_HOURS) {
            Thrown.index("3, no such hour: " + hour, RollerHorses::new, x -> x.light(hour, 9));
            Thrown.index("3, no such hour, and out of range: " + hour, RollerHorses::new, x -> x.light(hour, 10));
            Thrown.index("3, no such hour, and out of range: " + hour, RollerHorses::new, x -> x.light(hour, -1));
        }
        Thrown.index("3, no such hour of the day, in the hour 30", () -> nextDay(), x -> x.light(30, 1));
        RollerHorses x = nextDay();
        x.light(6, 2);
        Due.is(2, "3, the hour 30 is the hour 6 of the day", () -> x.call(0, 0));
    }

    /** Promise 3: "if the light is out of range". */
    private static void lightOutOfRange() {
        for (int amount : NO_AMOUNTS) {
            Thrown.argument("3, out of range: " + amount, () -> Grounds.playable(), x -> x.light(0, amount));
            Thrown.argument("3, out of range: " + amount, () -> Grounds.playable(), x -> x.light(23, amount));
        }
    }

    /** Promise 4: "Returns the one before", 16 at first. */
    private static void bellBefore() {
        RollerHorses x = new RollerHorses();
        Due.is(16, "4, the one before", () -> x.bell(0));
        Due.is(0, "4, the one before", () -> x.bell(0));
        Due.is(0, "4, the one before", () -> x.bell(23));
        Due.is(23, "4, the one before", () -> x.bell(16));
        Due.is(16, "4, the one before", () -> x.bell(16));
    }

    /** Promise 4: "if there is no such hour of the day". */
    private static void noSuchHourForTheBell() {
        for (int hour : NO_HOURS) {
            Thrown.index("4, no such hour: " + hour, RollerHorses::new, x -> x.bell(hour));
        }
        Thrown.index("4, no such hour of the day, in the hour 30", () -> nextDay(), x -> x.bell(30));
        RollerHorses x = nextDay();
        x.bell(6);
        Due.is(4, "4, the hour 30 is the hour 6 of the day", () -> x.call(0, 0));
    }

    /** Promise 5: "true for its light, false for its rain", for the first and the last hour. */
    private static void weatherOfAnHour() {
        RollerHorses x = new RollerHorses();
        for (int hour : new int[] {0, 23}) {
            Due.is(0, "5, rain of " + hour, () -> x.weather(hour, false));
            Due.is(0, "5, light of " + hour, () -> x.weather(hour, true));
            x.rain(hour, 9);
            Due.is(0, "5, light of " + hour, () -> x.weather(hour, true));
            x.light(hour, 8);
            Due.is(9, "5, rain of " + hour, () -> x.weather(hour, false));
            Due.is(8, "5, light of " + hour, () -> x.weather(hour, true));
        }
    }

    /** Promise 5: "if there is no such hour of the day". */
    private static void noSuchHourForWeather() {
        for (int hour : NO_HOURS) {
            Thrown.index("5, no such hour: " + hour, RollerHorses::new, x -> x.weather(hour, true));
            Thrown.index("5, no such hour: " + hour, RollerHorses::new, x -> x.weather(hour, false));
        }
        Thrown.index("5, no such hour of the day, in the hour 30", () -> nextDay(), x -> x.weather(30, true));
    }

    /** Promise 6: "Returns its number", from 0 to 3. */
    private static void pitchNumbers() {
        RollerHorses x = new RollerHorses();
        for (int p = 0; p < 4; p++) {
            int number = p;
            Due.index("6, not yet: " + p, () -> x.pitchOf(number, 0));
            Due.is(number, "6, its number", () -> x.pitch());
            Due.is(20, "6, a new one: wetness", () -> x.pitchOf(number, 0));
            Due.is(10, "6, a new one: hardness", () -> x.pitchOf(number, 1));
            Due.is(0, "6, a new one: ruts", () -> x.pitchOf(number, 2));
            Due.is(0, "6, a new one: no cover", () -> x.pitchOf(number, 3));
        }
    }

    /** Promise 6: "if it is refused for reason 1; the reason is kept for refusal". */
    private static void pitchIsRefused() {
        Thrown.refused("6, refused for reason 1", () -> Grounds.full(), 1, 4, x -> x.pitch());
        RollerHorses x = new RollerHorses();
        for (int p = 0; p < 4; p++) {
            x.pitch();
        }
        Due.refused(x, 1, 4, "6, refused for reason 1", () -> x.pitch());
        Due.refused(x, 1, 4, "6, refused for reason 1 again", () -> x.pitch());
        x.undo();
        Due.is(3, "6, there is room again", () -> x.pitch());
    }

    /** Promise 7: "Returns its wetness", the least and the most, to cover and to take off, also if nothing is different. */
    private static void coverAnswersWetness() {
        for (int wetness : new int[] {0, 1, 60, 61, 96, 99}) {
            RollerHorses x = Grounds.makeWet(Grounds.playable(), wetness);
            Due.is(wetness, "7, its wetness, no cover to take off", () -> x.cover(0, false));
            Due.is(wetness, "7, its wetness", () -> x.cover(0, true));
            Due.is(wetness, "7, its wetness, covered again", () -> x.cover(0, true));
            Due.is(1, "7, covered again", () -> x.pitchOf(0, 3));
            x.pass(72);
            Due.is(wetness, "7, its wetness as it was covered", () -> x.cover(0, false));
            Due.is(0, "7, the cover is off", () -> x.pitchOf(0, 3));
        }
    }

    /** Promise 7: "if there is no such pitch". */
    private static void noSuchPitchToCover() {
        for (int pitch : NO_PITCHES) {
            Thrown.index("7, no such pitch: " + pitch, () -> Grounds.full(), x -> x.cover(pitch, true));
            Thrown.index("7, no such pitch: " + pitch, () -> Grounds.full(), x -> x.cover(pitch, false));
        }
        Thrown.index("7, no such pitch yet", () -> Grounds.playable(), x -> x.cover(1, true));
        Due.is(20, "7, the last pitch", () -> Grounds.full().cover(3, false));
    }

    /** Promise 7: "if it is refused for reason 4, to cover it", until the last hour of the rolling has gone by. */
    private static void coverIsRefused() {
        Thrown.refused("7, refused for reason 4, horse 0", () -> rolled(6), 4, 0, x -> x.cover(0, true));
        Thrown.refused("7, refused for reason 4, horse 4", () -> Grounds.full(), 4, 4, x -> x.cover(2, true));
        RollerHorses x = rolled(2);
        x.pass(1);
        Due.refused(x, 4, 0, "7, refused in the last hour", () -> x.cover(0, true));
        Due.is(17, "7, not refused to take it off", () -> x.cover(0, false));
        x.pass(1);
        Due.is(14, "7, not refused behind the last hour", () -> x.cover(0, true));
    }

    private static RollerHorses rolled(int hours) {
        RollerHorses x = Grounds.playable();
        x.roll(0, 0, hours);
        return x;
    }

    /** Promise 8: the number of each what, from the least to the most. */
    private static void pitchOfLeastAndMost() {
        Due.is(0, "8, wetness", () -> Grounds.makeWet(Grounds.playable(), 0).pitchOf(0, 0));
        Due.is(99, "8, wetness", () -> Grounds.makeWet(Grounds.playable(), 99).pitchOf(0, 0));
        RollerHorses x = Grounds.full();
        int[][] due = {{20, 10, 0, 0, -1, -1, 0}, {20, 10, 0, 0, -1, 11, 4}, {20, 10, 0, 0, 4, -1, 0}, {20, 10, 0, 1, -1, -1, 0}};
        for (int pitch = 0; pitch < 4; pitch++) {
            for (int what = 0; what <= 6; what++) {
                int p = pitch;
                int asked = what;
                Due.is(due[p][asked], "8, pitch " + p + ", what " + what, () -> x.pitchOf(p, asked));
            }
        }
        RollerHorses y = rolled(1);
        Due.is(0, "8, horse 0 rolls it", () -> y.pitchOf(0, 4));
        y.pass(1);
        Due.is(-1, "8, none rolls it", () -> y.pitchOf(0, 4));
        RollerHorses z = Grounds.played(6);
        Due.is(0, "8, innings 0 on it", () -> z.pitchOf(0, 5));
        z.bowl(0, 5);
        Due.is(0, "8, innings 0 on it", () -> z.pitchOf(0, 5));
        Due.is(5, "8, balls on it", () -> z.pitchOf(0, 6));
        z.bowl(0, 1);
        Due.is(-1, "8, none on it, all is bowled", () -> z.pitchOf(0, 5));
        z.innings(0, 0, 6);
        z.bowl(1, 1);
        Due.is(7, "8, balls of both innings on it", () -> z.pitchOf(0, 6));
        z.end(1);
        Due.is(-1, "8, none on it, they are ended", () -> z.pitchOf(0, 5));
        Due.is(7, "8, balls on it stay", () -> z.pitchOf(0, 6));
    }

    /** Promise 8: "if there is no such pitch", also ahead of what. */
    private static void noSuchPitchToAsk() {
        for (int pitch : NO_PITCHES) {
            Thrown.index("8, no such pitch: " + pitch, () -> Grounds.full(), x -> x.pitchOf(pitch, 0));
            Thrown.index("8, no such pitch, and what: " + pitch, () -> Grounds.full(), x -> x.pitchOf(pitch, 7));
            Thrown.index("8, no such pitch, and what: " + pitch, () -> Grounds.full(), x -> x.pitchOf(pitch, -1));
        }
        Thrown.index("8, no such pitch yet", () -> Grounds.playable(), x -> x.pitchOf(1, 6));
    }

    /** Promise 8: "if what is not from 0 to 6". */
    private static void whatOfAPitch() {
        for (int what : new int[] {Integer.MIN_VALUE, -1, 7, Integer.MAX_VALUE}) {
            Thrown.argument("8, not from 0 to 6: " + what, () -> Grounds.full(), x -> x.pitchOf(0, what));
            Thrown.argument("8, not from 0 to 6: " + what, () -> Grounds.full(), x -> x.pitchOf(3, what));
        }
    }

    /** Promise 9: "otherwise "w" if it is wetter than 60, otherwise "d"". */
    private static void signOfWetness() {
        Due.is('d', "9, wetness of 0", () -> Grounds.makeWet(Grounds.playable(), 0).sign(0));
        Due.is('d', "9, wetness of 59", () -> Grounds.makeWet(Grounds.playable(), 59).sign(0));
        Due.is('d', "9, wetness of 60", () -> Grounds.makeWet(Grounds.playable(), 60).sign(0));
        Due.is('w', "9, wetness of 61", () -> Grounds.makeWet(Grounds.playable(), 61).sign(0));
        Due.is('w', "9, wetness of 99", () -> Grounds.makeWet(Grounds.playable(), 99).sign(0));
    }

    /** Promise 9: each "otherwise", as far as two signs can apply. */
    private static void firstSignThatApplies() {
        RollerHorses x = Grounds.makeWet(Grounds.playable(), 61);
        x.cover(0, true);
        Due.is('c', "9, a cover, and wet", () -> x.sign(0));
        x.cover(0, false);
        x.roll(0, 0, 1);
        Due.is('h', "9, a horse, and wet", () -> x.sign(0));
        x.undo();
        Due.is('w', "9, wet", () -> x.sign(0));
        RollerHorses y = Grounds.played(6);
        Due.is('i', "9, innings", () -> y.sign(0));
        Grounds.makeWet(y, 61);
        Due.is('i', "9, innings, and wet", () -> y.sign(0));
        y.cover(0, true);
        Due.is('c', "9, a cover, and innings, and wet", () -> y.sign(0));
        y.end(0);
        y.cover(0, false);
        Due.is('w', "9, the innings are over", () -> y.sign(0));
        RollerHorses z = rolled(2);
        z.pass(1);
        Due.is('h', "9, in the last hour of the rolling", () -> z.sign(0));
        z.pass(1);
        Due.is('d', "9, behind the last hour of the rolling", () -> z.sign(0));
        Due.is("dihc", "9, all four pitches", () -> {
            RollerHorses f = Grounds.full();
            return "" + f.sign(0) + f.sign(1) + f.sign(2) + f.sign(3);
        });
    }

    /** Promise 9: "if there is no such pitch". */
    private static void noSuchPitchForASign() {
        for (int pitch : NO_PITCHES) {
            Thrown.index("9, no such pitch: " + pitch, () -> Grounds.full(), x -> x.sign(pitch));
        }
        Thrown.index("9, no such pitch yet", () -> Grounds.playable(), x -> x.sign(1));
    }
}
