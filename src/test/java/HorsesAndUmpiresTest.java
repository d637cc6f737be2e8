/** Promises 10 to 18. */
public final class HorsesAndUmpiresTest {
    public static void main(String[] args) {
        horse();
        boots();
        horseOf();
        rollAnswers();
        rollRefuses();
        rollTiredHorse();
        rollAtTheWettest();
        rollingMakesRuts();
        bestHorse();
        umpire();
        call();
        callWet();
        fitIn();
        fitInAtTheEnd();
        fitTooLate();
        bestPitch();
        Due.end();
    }

    private static void horse() {
        RollerHorses x = new RollerHorses();
        Due.argument("10: horse", () -> x.horse(0, true));
        Due.argument("10: horse", () -> x.horse(10, false));
        Due.argument("10: horse", () -> x.horse(-3, false));
        Due.is(0, "10: no horses", () -> x.account(4));
        for (int h = 0; h < 5; h++) {
            int number = h;
            Due.is(h, "10: horse", () -> x.horse(2 * number + 1, number == 3));
        }
        Due.refused(x, 1, 5, "10: sixth horse", () -> x.horse(1, true));
        Due.argument("10: the strength goes first", () -> x.horse(10, true));
        Due.is(5, "10: horses", () -> x.account(4));
        Due.is(1, "10: booted horses", () -> x.account(6));
        Due.is(9, "10: strength", () -> x.horseOf(4, 0));
        Due.is(5, "10: changes", () -> x.account(16));
    }

    private static void boots() {
        RollerHorses x = new RollerHorses();
        Due.index("11: boots", () -> x.boots(0, true));
        x.pitch();
        x.horse(1, true);
        x.horse(1, false);
        Due.index("11: boots", () -> x.boots(2, true));
        Due.index("11: boots", () -> x.boots(-1, true));
        Due.is(2, "11: boots on", () -> x.boots(1, true));
        Due.is(2, "11: boots on again", () -> x.boots(1, true));
        Due.is(1, "11: boots off", () -> x.boots(0, false));
        Due.is(0, "11: boots off", () -> x.boots(1, false));
        Due.is(7, "11: changes", () -> x.account(16));
        x.roll(0, 0, 3);
        Due.refused(x, 2, 3, "11: boots while it rolls", () -> x.boots(0, true));
        Due.is(1, "11: the other horse", () -> x.boots(1, true));
        x.pass(2);
        Due.refused(x, 2, 1, "11: boots while it rolls", () -> x.boots(0, false));
        x.pass(1);
        Due.is(2, "11: behind the rolling", () -> x.boots(0, true));
    }

    private static void horseOf() {
        RollerHorses x = new RollerHorses();
        Due.index("12: horseOf", () -> x.horseOf(0, 6));
        x.horse(7, true);
        x.pitch();
        x.pitch();
        int[] fresh = {7, 1, 0, 0, -1, 0};
        for (int what = 0; what < fresh.length; what++) {
            int asked = what;
            Due.is(fresh[what], "12: horseOf " + what, () -> x.horseOf(0, asked));
        }
        Due.argument("12: horseOf", () -> x.horseOf(0, 6));
        Due.argument("12: horseOf", () -> x.horseOf(0, -1));
        Due.index("12: horseOf", () -> x.horseOf(1, 0));
        Due.index("12: horseOf", () -> x.horseOf(-1, 0));
        x.roll(0, 1, 4);
        Due.is(1, "12: pitch", () -> x.horseOf(0, 4));
        x.pass(3);
        int[] rolling = {7, 1, 6, 1, 1, 3};
        for (int what = 0; what < rolling.length; what++) {
            int asked = what;
            Due.is(rolling[what], "12: horseOf " + what, () -> x.horseOf(0, asked));
        }
        x.pass(1);
        int[] resting = {7, 1, 8, 0, -1, 4};
        for (int what = 0; what < resting.length; what++) {
            int asked = what;
            Due.is(resting[what], "12: horseOf " + what, () -> x.horseOf(0, asked));
        }
        x.pass(7);
        Due.is(1, "12: rests by 1 an hour", () -> x.horseOf(0, 2));
        x.pass(2);
        Due.is(0, "12: rests to 0", () -> x.horseOf(0, 2));
    }

    private static void rollAnswers() {
        RollerHorses x = new RollerHorses();
        x.pitch();
        x.pitch();
        x.horse(9, true);
        x.horse(1, true);
        Due.is(64, "13: roll", () -> x.roll(0, 0, 6));
        Due.is(11, "13: roll", () -> x.roll(1, 1, 1));
        Due.is(6, "13: changes", () -> x.account(16));
        Due.is(2, "13: horses that roll", () -> x.account(5));
        Due.is(7, "27: hours that horses rolled", () -> x.pass(6));
        Due.is(64, "13: hardness", () -> x.pitchOf(0, 1));
        x.pass(12);
        Due.is(99, "13: at most 99", () -> x.roll(0, 0, 6));
        x.pass(6);
        Due.is(99, "13: hardness", () -> x.pitchOf(0, 1));
        Due.is(0, "27: at least 0", () -> x.pitchOf(0, 0));
    }

    private static void rollRefuses() {
        RollerHorses x = new RollerHorses();
        x.pitch();
        x.horse(2, false);
        x.horse(3, false);
        x.umpire(1);
        for (int number : new int[] {-1, 2}) {
            Due.index("13: roll with " + number, () -> x.roll(number, 0, 0));
            Due.index("13: roll of " + number, () -> x.roll(0, number, 7));
        }
        Due.argument("13: roll for 0 hours", () -> x.roll(0, 0, 0));
        Due.argument("13: roll for 7 hours", () -> x.roll(0, 0, 7));
        Due.argument("13: roll for -1 hours", () -> x.roll(0, 0, -1));
        x.roll(1, 0, 2);
        Due.argument("13: hours go ahead of reasons", () -> x.roll(1, 0, 7));
        Due.refused(x, 2, 2, "13: the horse rolls", () -> x.roll(1, 0, 1));
        Due.refused(x, 4, 1, "13: a horse rolls the pitch", () -> x.roll(0, 0, 1));
        x.pass(8);
        x.innings(0, 0, 6);
        x.end(0);
        x.innings(0, 0, 6);
        x.cover(0, true);
        Due.refused(x, 5, 1, "13: innings on the pitch", () -> x.roll(0, 0, 1));
        x.end(1);
        Due.refused(x, 6, 0, "13: the pitch has a cover", () -> x.roll(0, 0, 1));
        x.cover(0, false);
        x.rain(8, 9);
        x.rain(9, 9);
        x.rain(10, 1);
        x.light(8, 0);
        x.light(9, 0);
        x.light(10, 6);
        x.pass(1);
        Due.is(48, "13: wetness", () -> x.pitchOf(0, 0));
        x.pass(1);
        Due.refused(x, 7, 84, "13: wet and without boots", () -> x.roll(0, 0, 1));
        x.cover(0, true);
        Due.refused(x, 6, 0, "13: the cover goes ahead of the wetness", () -> x.roll(0, 0, 1));
        x.cover(0, false);
        x.boots(0, true);
        Due.is(18, "13: wet, but in boots", () -> x.roll(0, 0, 1));
    }

    private static void rollTiredHorse() {
        RollerHorses x = new RollerHorses();
        x.pitch();
        x.pitch();
        x.horse(1, true);
        x.horse(1, true);
        x.roll(0, 0, 6);
        x.pass(6);
        x.roll(0, 0, 2);
        x.pass(2);
        Due.is(16, "13: tiredness", () -> x.horseOf(0, 2));
        x.roll(1, 0, 6);
        Due.refused(x, 3, 16, "13: tired, ahead of a rolled pitch", () -> x.roll(0, 0, 1));
        x.pass(1);
        Due.is(15, "13: tiredness", () -> x.horseOf(0, 2));
        Due.refused(x, 4, 1, "13: not too tired", () -> x.roll(0, 0, 1));
        Due.is(16, "13: at 15 it rolls", () -> x.roll(0, 1, 6));
        x.pass(3);
        Due.refused(x, 2, 3, "13: it rolls, ahead of tired", () -> x.roll(0, 1, 1));
        Due.is(20, "13: at most 20", () -> x.horseOf(0, 2));
        x.pass(3);
        Due.refused(x, 3, 20, "13: tired", () -> x.roll(0, 1, 1));
    }

    private static void rollAtTheWettest() {
        RollerHorses x = new RollerHorses();
        x.pitch();
        x.horse(2, false);
        x.rain(0, 9);
        x.rain(1, 1);
        x.rain(2, 1);
        x.pass(2);
        Due.is(60, "13: wetness", () -> x.pitchOf(0, 0));
        Due.is(0, "14: at 60 it could roll", () -> x.bestHorse(0));
        Due.is(12, "13: at 60 it rolls", () -> x.roll(0, 0, 1));
        x.undo();
        x.pass(1);
        Due.is(64, "13: wetness", () -> x.pitchOf(0, 0));
        Due.noElement("14: above 60 it could not", () -> x.bestHorse(0));
        Due.refused(x, 7, 64, "13: above 60 it does not roll", () -> x.roll(0, 0, 1));
    }

    private static void rollingMakesRuts() {
        RollerHorses x = new RollerHorses();
        x.pitch();
        x.horse(5, false);
        x.light(0, 4);
        x.rain(0, 1);
        x.roll(0, 0, 2);
        x.pass(1);
        Due.is(2, "27: ruts by the wetness behind the rolling", () -> x.pitchOf(0, 2));
        Due.is(20, "27: less 2, more 4, less 2", () -> x.pitchOf(0, 0));
        Due.is(15, "27: hardness", () -> x.pitchOf(0, 1));
        x.pass(1);
        Due.is(4, "27: ruts", () -> x.pitchOf(0, 2));
        RollerHorses y = new RollerHorses();
        y.pitch();
        y.horse(1, false);
        y.roll(0, 0, 1);
        y.pass(1);
        Due.is(3, "27: half of 1 is 0, and a tenth of 20 and 1", () -> y.pitchOf(0, 2));
        RollerHorses z = new RollerHorses();
        z.pitch();
        z.horse(1, true);
        z.roll(0, 0, 6);
        z.pass(6);
        Due.is(0, "27: no ruts in boots", () -> z.pitchOf(0, 2));
        rutsEnd();
    }

    private static void rutsEnd() {
        RollerHorses x = new RollerHorses();
        x.pitch();
        x.horse(1, false);
        for (int hour = 0; hour < 24; hour++) {
            x.light(hour, 0);
        }
        x.rain(0, 9);
        x.pass(1);
        x.rain(0, 0);
        for (int turn = 0; turn < 3; turn++) {
            x.roll(0, 0, 6);
            x.pass(24);
        }
        x.roll(0, 0, 6);
        x.pass(24);
        Due.is(99, "27: ruts are at most 99", () -> x.pitchOf(0, 2));
    }

    private static void bestHorse() {
        RollerHorses x = new RollerHorses();
        Due.index("14: bestHorse", () -> x.bestHorse(0));
        x.pitch();
        x.pitch();
        Due.noElement("14: bestHorse", () -> x.bestHorse(0));
        Due.noElement("14: no refusal", () -> x.refusal(false));
        Due.is(2, "14: no change", () -> x.account(16));
        x.horse(3, false);
        x.horse(5, true);
        x.horse(5, true);
        x.horse(5, false);
        Due.is(1, "14: the lowest of the strongest", () -> x.bestHorse(0));
        Due.index("14: bestHorse", () -> x.bestHorse(2));
        Due.index("14: bestHorse", () -> x.bestHorse(-1));
        x.roll(1, 0, 2);
        Due.noElement("14: a rolled pitch", () -> x.bestHorse(0));
        Due.is(2, "14: one that does not roll", () -> x.bestHorse(1));
        x.pass(2);
        Due.is(2, "14: the least tired", () -> x.bestHorse(0));
        x.horse(9, false);
        Due.is(4, "14: the strongest", () -> x.bestHorse(0));
        x.rain(2, 9);
        x.rain(3, 9);
        x.pass(2);
        Due.is(2, "14: in boots on a wet pitch", () -> x.bestHorse(0));
        x.cover(0, true);
        Due.noElement("14: a covered pitch", () -> x.bestHorse(0));
        Due.noElement("14: no refusal", () -> x.refusal(false));
    }

    private static void umpire() {
        RollerHorses x = new RollerHorses();
        Due.argument("15: umpire", () -> x.umpire(0));
        Due.argument("15: umpire", () -> x.umpire(10));
        Due.is(0, "15: umpire", () -> x.umpire(9));
        Due.is(1, "15: umpire", () -> x.umpire(1));
        Due.is(2, "15: umpire", () -> x.umpire(5));
        Due.argument("15: the strictness goes first", () -> x.umpire(10));
        Due.refused(x, 1, 3, "15: fourth umpire", () -> x.umpire(5));
        Due.is(3, "15: umpires", () -> x.account(7));
        Due.is(3, "15: changes", () -> x.account(16));
    }

    private static void call() {
        RollerHorses x = new RollerHorses();
        Due.index("16: call", () -> x.call(0, 0));
        x.pitch();
        Due.index("16: call", () -> x.call(0, 0));
        x.umpire(2);
        x.horse(9, true);
        Due.index("16: call", () -> x.call(1, 0));
        Due.index("16: call", () -> x.call(-1, 0));
        Due.index("16: call", () -> x.call(0, 1));
        Due.index("16: call", () -> x.call(0, -1));
        x.rain(0, 1);
        x.bell(0);
        x.cover(0, true);
        Due.is(6, "16: a cover goes first", () -> x.call(0, 0));
        x.cover(0, false);
        x.roll(0, 0, 1);
        Due.is(5, "16: then a horse", () -> x.call(0, 0));
        x.undo();
        Due.is(4, "16: then the tea", () -> x.call(0, 0));
        x.bell(1);
        Due.is(3, "16: then rain", () -> x.call(0, 0));
        x.rain(0, 0);
        Due.is(2, "16: then light", () -> x.call(0, 0));
        x.light(0, 2);
        Due.is(2, "16: light of 2", () -> x.call(0, 0));
        x.light(0, 3);
        Due.is(0, "16: light of 3", () -> x.call(0, 0));
        x.pass(24);
        Due.is(0, "16: the hour of the day", () -> x.call(0, 0));
        x.bell(0);
        Due.is(4, "16: tea in the hour 24", () -> x.call(0, 0));
    }

    private static void callWet() {
        RollerHorses x = new RollerHorses();
        x.pitch();
        x.umpire(8);
        x.umpire(9);
        x.umpire(1);
        x.light(0, 3);
        Due.is(0, "16: 20 is not above 60 less 40", () -> x.call(0, 0));
        Due.is(1, "16: 20 is above 60 less 45", () -> x.call(1, 0));
        Due.is(0, "16: 20 is not above 60 less 5", () -> x.call(2, 0));
        x.light(1, 3);
        x.rain(0, 9);
        x.pass(1);
        Due.is(55, "16: wetness", () -> x.pitchOf(0, 0));
        Due.is(0, "16: 55 is not above 60 less 5", () -> x.call(2, 0));
        x.light(1, 0);
        x.rain(1, 1);
        x.pass(1);
        x.light(2, 3);
        Due.is(59, "16: wetness", () -> x.pitchOf(0, 0));
        Due.is(1, "16: 59 is above 60 less 5", () -> x.call(2, 0));
    }

    private static void fitIn() {
        RollerHorses x = new RollerHorses();
        Due.index("17: fitIn", () -> x.fitIn(0, 0));
        x.pitch();
        x.umpire(1);
        x.horse(9, false);
        Due.index("17: fitIn", () -> x.fitIn(0, 1));
        Due.index("17: fitIn", () -> x.fitIn(1, 0));
        Due.index("17: fitIn", () -> x.fitIn(-1, 0));
        Due.is(6, "17: when it is light", () -> x.fitIn(0, 0));
        Due.is(0, "17: the hour stays", () -> x.account(0));
        Due.is(3, "17: no change", () -> x.account(16));
        x.pass(5);
        x.roll(0, 0, 4);
        Due.is(4, "17: behind the rolling", () -> x.fitIn(0, 0));
        Due.is(10, "17: the hardness stays", () -> x.pitchOf(0, 1));
        x.pass(5);
        Due.is(0, "17: now", () -> x.fitIn(0, 0));
        x.pass(6);
        Due.is(1, "17: behind the tea", () -> x.fitIn(0, 0));
        x.rain(17, 1);
        x.rain(18, 1);
        Due.is(3, "17: behind the rain", () -> x.fitIn(0, 0));
        x.cover(0, true);
        Due.noElement("17: a cover", () -> x.fitIn(0, 0));
    }

    private static void fitInAtTheEnd() {
        RollerHorses x = new RollerHorses();
        x.pitch();
        x.umpire(9);
        for (int hour = 0; hour < 24; hour++) {
            x.light(hour, 2);
        }
        x.light(23, 3);
        Due.is(23, "17: 20 less 23 is dry", () -> x.fitIn(0, 0));
        x.light(23, 2);
        x.light(0, 3);
        Due.is(24, "17: when the wetness is 15", () -> x.fitIn(0, 0));
        for (int hour = 1; hour < 24; hour++) {
            x.light(hour, 1);
        }
        x.rain(1, 1);
        Due.noElement("17: wetter each day", () -> x.fitIn(0, 0));
        RollerHorses y = new RollerHorses();
        y.pitch();
        y.umpire(9);
        for (int hour = 0; hour < 24; hour++) {
            y.light(hour, 1);
        }
        y.light(0, 8);
        y.pass(1);
        y.light(0, 5);
        y.light(1, 0);
        y.rain(1, 0);
        Due.is(16, "17: wetness", () -> y.pitchOf(0, 0));
        Due.is(47, "17: 16 in the hour 24, 14 in the hour 48", () -> y.fitIn(0, 0));
        y.undo();
        y.undo();
        y.undo();
        y.undo();
        Due.is(0, "17: the hour", () -> y.account(0));
        Due.is(20, "17: the wetness", () -> y.pitchOf(0, 0));
        y.light(0, 6);
        Due.is(48, "17: 20, 17 and then 14, in 48 hours", () -> y.fitIn(0, 0));
        y.light(0, 5);
        Due.noElement("17: 20, 18 and then 16", () -> y.fitIn(0, 0));
    }

    private static void fitTooLate() {
        RollerHorses x = new RollerHorses();
        x.pitch();
        x.umpire(9);
        for (int hour = 0; hour < 24; hour++) {
            x.light(hour, 1);
        }
        x.pass(23);
        x.light(0, 6);
        Due.noElement("17: 20, 17 and then 14, in 49 hours", () -> x.fitIn(0, 0));
        x.pass(1);
        Due.is(48, "17: in 48 hours", () -> x.fitIn(0, 0));
        x.pass(48);
        Due.is(0, "17: now", () -> x.fitIn(0, 0));
    }

    private static void bestPitch() {
        RollerHorses x = new RollerHorses();
        Due.index("18: bestPitch", () -> x.bestPitch(0));
        x.umpire(1);
        Due.noElement("18: bestPitch", () -> x.bestPitch(0));
        x.pitch();
        x.pitch();
        x.pitch();
        Due.noElement("18: in the dark", () -> x.bestPitch(0));
        x.pass(6);
        Due.is(0, "18: the lowest one", () -> x.bestPitch(0));
        Due.index("18: bestPitch", () -> x.bestPitch(1));
        Due.index("18: bestPitch", () -> x.bestPitch(-1));
        x.horse(2, false);
        x.horse(2, true);
        x.roll(0, 1, 2);
        x.roll(1, 2, 1);
        Due.is(0, "18: not those that are rolled", () -> x.bestPitch(0));
        x.pass(1);
        Due.is(2, "18: the hardest", () -> x.bestPitch(0));
        x.pass(1);
        Due.is(14, "18: hardness of 1", () -> x.pitchOf(1, 1));
        Due.is(4, "18: ruts of 1", () -> x.pitchOf(1, 2));
        Due.is(2, "18: hardness less ruts", () -> x.bestPitch(0));
        x.cover(2, true);
        Due.is(0, "18: 10 less 0 as 14 less 4", () -> x.bestPitch(0));
        x.cover(0, true);
        Due.is(1, "18: the only one", () -> x.bestPitch(0));
        x.cover(1, true);
        Due.noElement("18: all covered", () -> x.bestPitch(0));
        ruttedPitch();
    }

    private static void ruttedPitch() {
        RollerHorses x = new RollerHorses();
        x.umpire(1);
        x.pitch();
        x.horse(1, false);
        x.rain(0, 7);
        x.pass(1);
        x.rain(0, 0);
        for (int turn = 0; turn < 4; turn++) {
            x.cover(0, false);
            x.roll(0, 0, 5);
            x.pass(5);
            x.cover(0, true);
            x.pass(15);
        }
        x.cover(0, false);
        for (int hour = 6; hour < 10; hour++) {
            x.light(hour, 9);
        }
        Due.is(9, "18: the hour of the day", () -> x.account(0) % 24);
        Due.is(true, "18: more ruts than hardness", () -> x.pitchOf(0, 2) > x.pitchOf(0, 1));
        Due.is(0, "18: also less than 0", () -> x.bestPitch(0));
    }
}
