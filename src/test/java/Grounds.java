/** Grounds from which the boundary cases are tried. */
final class Grounds {
    private Grounds() {
    }

    /** In the hour 6, when all but a wet pitch is fit: a pitch, a horse in boots and an umpire. */
    static RollerHorses playable() {
        RollerHorses x = new RollerHorses();
        x.pitch();
        x.horse(1, true);
        x.umpire(1);
        x.pass(6);
        return x;
    }

    /** As playable, with innings 0 that are for so many balls. */
    static RollerHorses played(int balls) {
        RollerHorses x = playable();
        x.innings(0, 0, balls);
        return x;
    }

    /** In the hour 6: pitches 0 and 1, horse 0 without boots, horse 1 in boots, and an umpire. */
    static RollerHorses stable() {
        RollerHorses x = new RollerHorses();
        x.pitch();
        x.pitch();
        x.horse(1, false);
        x.horse(2, true);
        x.umpire(1);
        x.pass(6);
        return x;
    }

    /**
     * As many of everything as there is room for, in the hour 6, and 8 changes that can be undone:
     * pitch 0 is free, innings 11 are on pitch 1, horse 4 rolls pitch 2, pitch 3 has a cover. In
     * the snapshot there is no cover yet.
     */
    static RollerHorses full() {
        RollerHorses x = new RollerHorses();
        for (int p = 0; p < 4; p++) {
            x.pitch();
        }
        for (int h = 0; h < 5; h++) {
            x.horse(2 * h + 1, h % 2 == 0);
        }
        x.umpire(1);
        x.umpire(5);
        x.umpire(9);
        x.pass(6);
        for (int i = 0; i < 11; i++) {
            x.innings(0, 0, 6);
            x.end(i);
        }
        x.innings(1, 1, 30);
        x.bowl(11, 4);
        x.roll(4, 2, 6);
        x.save();
        x.cover(3, true);
        return x;
    }

    /**
     * Lets hours go by until pitch 0 has this wetness, from hour to hour by other weather. The
     * hours that went by and the one that begins then have no rain and a light of 9.
     */
    static RollerHorses makeWet(RollerHorses x, int wetness) {
        for (int h = 0; h < 30 && x.pitchOf(0, 0) != wetness; h++) {
            int hour = x.account(0) % 24;
            int missing = wetness - x.pitchOf(0, 0);
            int rain = missing > 0 ? Math.min(9, (missing + 3) / 4) : 0;
            int dry = wetness == 99 ? 0 : Math.max(0, Math.min(4, 4 * rain - missing));
            x.rain(hour, rain);
            x.light(hour, 2 * dry);
            x.pass(1);
            makeFair(x, hour);
        }
        makeFair(x, x.account(0) % 24);
        Due.is(wetness, "the wetness that a test begins with", () -> x.pitchOf(0, 0));
        return x;
    }

    private static void makeFair(RollerHorses x, int hour) {
        x.rain(hour, 0);
        x.light(hour, 9);
    }

    /** Neither rain nor light in any hour: only horses make a pitch dry. */
    static RollerHorses makeDark(RollerHorses x) {
        for (int hour = 0; hour < 24; hour++) {
            x.rain(hour, 0);
            x.light(hour, 0);
        }
        return x;
    }

    /** Lets horse 0 roll pitch 0 for 8 hours, behind which its tiredness is 16. */
    static RollerHorses makeTired(RollerHorses x) {
        x.roll(0, 0, 6);
        x.pass(6);
        x.roll(0, 0, 2);
        x.pass(2);
        Due.is(16, "the tiredness that a test begins with", () -> x.horseOf(0, 2));
        return x;
    }
}
