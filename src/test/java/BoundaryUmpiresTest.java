/** The boundary cases of promises 16 to 18: what umpires call, in how many hours, and the best pitch. */
public final class BoundaryUmpiresTest {
    private static final int[] NO_UMPIRES = {Integer.MIN_VALUE, -1, 3, 4, Integer.MAX_VALUE};
    private static final int[] NO_PITCHES = {Integer.MIN_VALUE, -1, 4, 5, Integer.MAX_VALUE};

    public static void main(String[] args) {
        firstCallThatApplies();
        callsThatRefuseInnings();
        callOfWetness();
        callOfLight();
        callOfRain();
        callInTheHourOfTheTea();
        callOfARolledPitch();
        noSuchUmpireOrPitchToCall();
        fitNow();
        fitBehindTheTea();
        fitOnTheNextDay();
        fitBehindTheRolling();
        fitInFortyEightHours();
        fitInFortyNineHours();
        neverFit();
        noSuchUmpireOrPitchToBeFit();
        bestPitchOfHardnessLessRuts();
        bestPitchIsCalledFit();
        noBestPitch();
        noSuchUmpireForAPitch();
        Due.end();
    }

    /** The calls that apply in the hour of a ground, as bits: 6 a cover, 5 a horse, and so on to 1, wet. */
    private static RollerHorses applying(int calls) {
        RollerHorses x = Grounds.playable();
        Grounds.makeWet(x, (calls & 1 << 1) != 0 ? 56 : 55);
        int hour = x.account(0) % 24;
        if ((calls & 1 << 2) != 0) {
            x.light(hour, 2);
        }
        if ((calls & 1 << 3) != 0) {
            x.rain(hour, 1);
        }
        if ((calls & 1 << 4) != 0) {
            x.bell(hour);
        }
        if ((calls & 1 << 5) != 0) {
            x.roll(0, 0, 1);
        }
        if ((calls & 1 << 6) != 0) {
            x.cover(0, true);
        }
        return x;
    }

    /** A pitch that is rolled cannot be covered, so that 6 and 5 never apply at once. */
    private static boolean canApply(int calls) {
        return (calls >> 5) < 3;
    }

    /** Terms, Umpires: "by the first of these numbers that applies", for all that can apply at once. */
    private static void firstCallThatApplies() {
        for (int calls = 0; calls < 1 << 7; calls += 2) {
            int due = calls == 0 ? 0 : 31 - Integer.numberOfLeadingZeros(calls);
            RollerHorses x = canApply(calls) ? applying(calls) : null;
            if (x != null) {
                Due.is(due, "16, of the calls " + Integer.toBinaryString(calls), () -> x.call(0, 0));
            }
        }
    }

    /** Promise 19: reason 8, "the umpire calls the pitch unfit: the number of the call", for each call. */
    private static void callsThatRefuseInnings() {
        for (int c = 1; c <= 6; c++) {
            int call = c;
            Thrown.refused("19, refused for call " + c, () -> applying(1 << call), 8, call, x -> x.innings(0, 0, 6));
        }
        Due.is(0, "19, not refused", () -> applying(0).innings(0, 0, 6));
    }

    /** Terms, Umpires: "1 if the wetness is above 60 less 5 times the strictness", for each strictness. */
    private static void callOfWetness() {
        for (int s = 1; s <= 9; s++) {
            int strictness = s;
            int most = 60 - 5 * s;
            Due.is(0, "16, strictness " + s + ", wetness " + most, () -> called(strictness, most));
            Due.is(1, "16, strictness " + s + ", wetness " + (most + 1), () -> called(strictness, most + 1));
            Due.is(0, "16, strictness " + s + ", wetness 0", () -> called(strictness, 0));
            Due.is(1, "16, strictness " + s + ", wetness 99", () -> called(strictness, 99));
        }
    }

    private static int called(int strictness, int wetness) {
        RollerHorses x = new RollerHorses();
        x.pitch();
        x.umpire(strictness);
        return Grounds.makeWet(x, wetness).call(0, 0);
    }

    /** Terms, Umpires: "2 if its light is less than 3". */
    private static void callOfLight() {
        RollerHorses x = Grounds.playable();
        for (int light = 0; light <= 9; light++) {
            x.light(6, light);
            Due.is(light < 3 ? 2 : 0, "16, a light of " + light, () -> x.call(0, 0));
        }
        x.light(5, 0);
        x.light(7, 0);
        Due.is(0, "16, not the light of another hour", () -> x.call(0, 0));
        Due.is(2, "16, the hour 5", () -> at(5).call(0, 0));
        Due.is(0, "16, the hour 6", () -> at(6).call(0, 0));
        Due.is(0, "16, the hour 19", () -> at(19).call(0, 0));
        Due.is(2, "16, the hour 20", () -> at(20).call(0, 0));
        Due.is(2, "16, the hour 29", () -> at(29).call(0, 0));
        Due.is(0, "16, the hour 30", () -> at(30).call(0, 0));
    }

    private static RollerHorses at(int hour) {
        RollerHorses x = new RollerHorses();
        x.pitch();
        x.umpire(1);
        if (hour > 0) {
            x.pass(hour);
        }
        return x;
    }

    /** Terms, Umpires: "3 if it rains in this hour of the day". */
    private static void callOfRain() {
        RollerHorses x = Grounds.playable();
        for (int rain = 0; rain <= 9; rain++) {
            x.rain(6, rain);
            Due.is(rain > 0 ? 3 : 0, "16, rain of " + rain, () -> x.call(0, 0));
        }
        x.rain(6, 0);
        x.rain(5, 9);
        x.rain(7, 9);
        Due.is(0, "16, not the rain of another hour", () -> x.call(0, 0));
        x.rain(7, 0);
        x.rain(6, 1);
        x.pass(24);
        Due.is(3, "16, the rain of the hour 6 in the hour 30", () -> x.call(0, 0));
    }

    /** Terms, Umpires: "4 in the hour of the tea", on each day. */
    private static void callInTheHourOfTheTea() {
        int[] hours = {15, 16, 17, 39, 40, 41, 64};
        int[] due = {0, 4, 0, 0, 4, 0, 4};
        for (int h = 0; h < hours.length; h++) {
            int hour = hours[h];
            Due.is(due[h], "16, the hour " + hour, () -> at(hour).call(0, 0));
        }
        RollerHorses x = at(0);
        x.bell(0);
        Due.is(4, "16, tea in the hour 0", () -> x.call(0, 0));
        x.bell(23);
        Due.is(2, "16, tea in the hour 23, it is 0", () -> x.call(0, 0));
        x.pass(23);
        Due.is(4, "16, tea in the hour 23", () -> x.call(0, 0));
        x.pass(1);
        Due.is(2, "16, tea in the hour 23, it is 24", () -> x.call(0, 0));
        x.bell(0);
        Due.is(4, "16, tea in the hour 24", () -> x.call(0, 0));
    }

    /** Terms, Umpires: "5 if a horse rolls it", until the last hour of it has gone by. */
    private static void callOfARolledPitch() {
        RollerHorses x = Grounds.stable();
        x.roll(0, 0, 2);
        Due.is(5, "16, rolled", () -> x.call(0, 0));
        Due.is(0, "16, the other pitch", () -> x.call(0, 1));
        x.pass(1);
        Due.is(5, "16, rolled in the last hour", () -> x.call(0, 0));
        x.pass(1);
        Due.is(0, "16, behind the last hour", () -> x.call(0, 0));
    }

    /** Promise 16: "if there is no such umpire or pitch". */
    private static void noSuchUmpireOrPitchToCall() {
        for (int umpire : NO_UMPIRES) {
            Thrown.index("16, no such umpire: " + umpire, () -> Grounds.full(), x -> x.call(umpire, 0));
        }
        for (int pitch : NO_PITCHES) {
            Thrown.index("16, no such pitch: " + pitch, () -> Grounds.full(), x -> x.call(0, pitch));
        }
        Thrown.index("16, neither", () -> Grounds.full(), x -> x.call(3, 4));
        Thrown.index("16, no such umpire yet", () -> Grounds.playable(), x -> x.call(1, 0));
        Thrown.index("16, no such pitch yet", () -> Grounds.playable(), x -> x.call(0, 1));
        Due.is(6, "16, the last umpire and the last pitch", () -> Grounds.full().call(2, 3));
        Due.is(1, "16, the last umpire and the first pitch", () -> Grounds.full().call(2, 0));
    }

    /** Promise 17: "0 if it is called so now"; nothing goes by. */
    private static void fitNow() {
        RollerHorses x = Grounds.full();
        String before = State.of(Grounds.full());
        Due.is(0, "17, fit now", () -> x.fitIn(0, 0));
        Due.is(6, "17, behind the rolling", () -> x.fitIn(0, 2));
        Due.is(before, "17, all stays", () -> State.of(x));
        RollerHorses y = Grounds.playable();
        Due.is(0, "17, fit in the hour 6", () -> y.fitIn(0, 0));
        y.pass(9);
        Due.is(0, "17, fit in the hour 15", () -> y.fitIn(0, 0));
    }

    /** Promise 17: "in how many hours", 1 of them. */
    private static void fitBehindTheTea() {
        RollerHorses x = Grounds.playable();
        x.bell(6);
        Due.is(1, "17, behind the tea", () -> x.fitIn(0, 0));
        x.bell(16);
        x.rain(6, 1);
        Due.is(1, "17, behind the rain", () -> x.fitIn(0, 0));
        x.rain(6, 0);
        x.light(6, 2);
        Due.is(1, "17, behind the dark hour", () -> x.fitIn(0, 0));
    }

    /** Promise 17: "if only hours went by", also from the last hour of the day to the first. */
    private static void fitOnTheNextDay() {
        RollerHorses x = Grounds.playable();
        x.pass(14);
        Due.is(10, "17, from the hour 20 to the hour 30", () -> x.fitIn(0, 0));
        x.pass(3);
        Due.is(7, "17, from the hour 23 to the hour 30", () -> x.fitIn(0, 0));
        x.light(0, 3);
        Due.is(1, "17, from the hour 23 to the hour 24", () -> x.fitIn(0, 0));
        x.light(23, 3);
        x.light(0, 0);
        Due.is(0, "17, in the hour 23", () -> x.fitIn(0, 0));
        x.light(22, 3);
        x.light(23, 2);
        x.pass(1);
        x.light(6, 0);
        x.light(7, 0);
        x.light(8, 0);
        Due.is(9, "17, from the hour 24 to the hour 33", () -> x.fitIn(0, 0));
    }

    /** Promise 17: "if only hours went by", in which the horses roll on. */
    private static void fitBehindTheRolling() {
        for (int h = 1; h <= 6; h++) {
            int hours = h;
            RollerHorses x = Grounds.stable();
            x.roll(0, 0, hours);
            Due.is(hours, "17, behind " + hours + " hours of rolling", () -> x.fitIn(0, 0));
            Due.is(hours, "17, asked again", () -> x.fitIn(0, 0));
            Due.is(10, "17, the hardness stays", () -> x.pitchOf(0, 1));
            Due.is(hours, "17, the horse still rolls", () -> x.horseOf(0, 3));
        }
    }

    /**
     * Terms, In doubt: "A pitch can be fit within 48 hours in the hour that is 48 hours from now." It
     * loses 1 an hour from 99; there is enough light in the hours 0, 24 and 48 only.
     */
    private static void fitInFortyEightHours() {
        RollerHorses x = drying(0);
        Due.is(0, "17, the hour", () -> x.account(0) % 24);
        Due.is(48, "17, in 48 hours", () -> x.fitIn(0, 0));
        x.pass(1);
        Due.is(47, "17, in 47 hours", () -> x.fitIn(0, 0));
        x.pass(46);
        Due.is(1, "17, in 1 hour", () -> x.fitIn(0, 0));
        x.pass(1);
        Due.is(0, "17, now", () -> x.fitIn(0, 0));
        Due.is(51, "17, the wetness", () -> x.pitchOf(0, 0));
    }

    /** Promise 17: "if it would not be within 48 hours", though it would be in 49. */
    private static void fitInFortyNineHours() {
        Thrown.noElement("17, in 49 hours", () -> drying(1), x -> x.fitIn(0, 0));
        RollerHorses x = drying(1);
        x.pass(1);
        Due.is(48, "17, in 48 hours", () -> x.fitIn(0, 0));
        x.pass(48);
        Due.is(0, "17, now", () -> x.fitIn(0, 0));
        Due.is(50, "17, the wetness", () -> x.pitchOf(0, 0));
    }

    /** In the hour 24, with a wetness of 99 that becomes 1 less each hour, and one hour that is light. */
    private static RollerHorses drying(int lightHour) {
        RollerHorses x = new RollerHorses();
        x.pitch();
        x.umpire(1);
        Grounds.makeDark(x);
        for (int hour = 21; hour < 24; hour++) {
            x.rain(hour, 9);
        }
        x.pass(24);
        for (int hour = 0; hour < 24; hour++) {
            x.light(hour, 2);
        }
        for (int hour = 21; hour < 24; hour++) {
            x.rain(hour, 0);
        }
        x.light(lightHour, 3);
        Due.is(99, "17, the wetness at first", () -> x.pitchOf(0, 0));
        return x;
    }

    /** Promise 17: "if it would not be within 48 hours": nothing that only goes by changes it. */
    private static void neverFit() {
        Thrown.noElement("17, a cover", () -> Grounds.full(), x -> x.fitIn(0, 3));
        Thrown.noElement("17, no light", () -> Grounds.makeDark(Grounds.playable()), x -> x.fitIn(0, 0));
        Thrown.noElement("17, light in the hour of the tea only", () -> {
            RollerHorses x = Grounds.makeDark(Grounds.playable());
            x.light(16, 9);
            return x;
        }, x -> x.fitIn(0, 0));
        RollerHorses y = Grounds.makeDark(Grounds.playable());
        y.light(5, 9);
        Due.is(23, "17, light in the hour 29", () -> y.fitIn(0, 0));
    }

    /** Promise 17: "if there is no such umpire or pitch", also ahead of not within 48 hours. */
    private static void noSuchUmpireOrPitchToBeFit() {
        for (int umpire : NO_UMPIRES) {
            Thrown.index("17, no such umpire: " + umpire, () -> Grounds.full(), x -> x.fitIn(umpire, 0));
            Thrown.index("17, no such umpire, and a cover: " + umpire, () -> Grounds.full(), x -> x.fitIn(umpire, 3));
        }
        for (int pitch : NO_PITCHES) {
            Thrown.index("17, no such pitch: " + pitch, () -> Grounds.full(), x -> x.fitIn(0, pitch));
        }
        Thrown.index("17, no such umpire yet", () -> Grounds.playable(), x -> x.fitIn(1, 0));
        Thrown.index("17, no such pitch yet", () -> Grounds.playable(), x -> x.fitIn(0, 1));
    }

    /** Promise 18: "the greatest hardness less ruts", "of several the lowest one". */
    private static void bestPitchOfHardnessLessRuts() {
        RollerHorses x = Grounds.stable();
        Due.is(0, "18, the lower of two", () -> x.bestPitch(0));
        x.roll(0, 1, 1);
        x.pass(1);
        Due.is("11 3", "18, hardness and ruts", () -> x.pitchOf(1, 1) + " " + x.pitchOf(1, 2));
        Due.is(0, "18, 10 less 0 is more than 11 less 3", () -> x.bestPitch(0));
        x.roll(1, 1, 1);
        x.pass(1);
        Due.is(0, "18, 10 less 0 is more than 13 less 3, by number", () -> x.bestPitch(0));
        x.roll(1, 1, 1);
        x.pass(1);
        Due.is(1, "18, 15 less 3 is more than 10 less 0", () -> x.bestPitch(0));
        RollerHorses y = Grounds.stable();
        y.roll(0, 0, 1);
        y.pass(1);
        Due.is(1, "18, 10 less 0 is more than 11 less 3", () -> y.bestPitch(0));
        bestPitchBelowNought();
    }

    /** Promise 18: the greatest one is also found when there are more ruts than hardness. */
    private static void bestPitchBelowNought() {
        RollerHorses x = new RollerHorses();
        x.pitch();
        x.pitch();
        x.horse(1, false);
        x.horse(1, false);
        x.umpire(1);
        Grounds.makeWet(x, 50);
        Grounds.makeDark(x);
        x.roll(0, 0, 6);
        x.roll(1, 1, 5);
        x.pass(6);
        x.light(x.account(0) % 24, 3);
        Due.is("16 36 50", "18, pitch 0", () -> x.pitchOf(0, 1) + " " + x.pitchOf(0, 2) + " " + x.pitchOf(0, 0));
        Due.is("15 30 50", "18, pitch 1", () -> x.pitchOf(1, 1) + " " + x.pitchOf(1, 2) + " " + x.pitchOf(1, 0));
        Due.is(1, "18, 15 less 30 is more than 16 less 36", () -> x.bestPitch(0));
        x.cover(1, true);
        Due.is(0, "18, the only one", () -> x.bestPitch(0));
    }

    /** Promise 18: "of those that an umpire calls fit now". */
    private static void bestPitchIsCalledFit() {
        RollerHorses x = Grounds.full();
        Due.is(0, "18, innings do not make it unfit", () -> x.bestPitch(0));
        x.cover(0, true);
        Due.is(1, "18, innings do not make it unfit", () -> x.bestPitch(0));
        x.cover(1, true);
        x.cover(3, false);
        Due.is(3, "18, the last pitch", () -> x.bestPitch(1));
        Due.noElement("18, none for the strictest umpire", () -> x.bestPitch(2));
    }

    /** Promise 18: "NoSuchElementException if there is none". */
    private static void noBestPitch() {
        Thrown.noElement("18, no pitches", () -> {
            RollerHorses x = new RollerHorses();
            x.umpire(1);
            return x;
        }, x -> x.bestPitch(0));
        for (int c = 1; c <= 6; c++) {
            int call = c;
            Thrown.noElement("18, called " + c, () -> applying(1 << call), x -> x.bestPitch(0));
        }
        Thrown.noElement("18, all too wet for umpire 2", () -> Grounds.full(), x -> x.bestPitch(2));
    }

    /** Promise 18: "if there is no such umpire", also ahead of none. */
    private static void noSuchUmpireForAPitch() {
        for (int umpire : NO_UMPIRES) {
            Thrown.index("18, no such umpire: " + umpire, () -> Grounds.full(), x -> x.bestPitch(umpire));
        }
        Thrown.index("18, no such umpire yet", () -> Grounds.playable(), x -> x.bestPitch(1));
        Thrown.index("18, no such umpire, and no pitches", RollerHorses::new, x -> x.bestPitch(0));
    }
}
