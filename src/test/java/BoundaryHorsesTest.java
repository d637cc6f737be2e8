/** The boundary cases of promises 10 to 15: horses, and who may be an umpire. */
public final class BoundaryHorsesTest {
    private static final int[] NO_GRADES = {Integer.MIN_VALUE, -1, 0, 10, Integer.MAX_VALUE};
    private static final int[] NO_HORSES = {Integer.MIN_VALUE, -1, 5, 6, Integer.MAX_VALUE};
    private static final int[] NO_PITCHES = {Integer.MIN_VALUE, -1, 4, 5, Integer.MAX_VALUE};
    private static final int[] NO_ROLL_HOURS = {Integer.MIN_VALUE, -1, 0, 7, Integer.MAX_VALUE};

    public static void main(String[] args) {
        horseNumbers();
        strengthOutOfRange();
        horseIsRefused();
        bootsAnswerHowMany();
        noSuchHorseForBoots();
        bootsAreRefused();
        horseOfLeastAndMost();
        noSuchHorseToAsk();
        whatOfAHorse();
        hardnessBehindTheRolling();
        noSuchHorseOrPitchToRoll();
        rollHoursOutOfRange();
        rollIsRefusedForEachReason();
        rollIsRefusedForTheHorseFirst();
        rollIsRefusedForTirednessNext();
        rollIsRefusedForThePitchNext();
        rollHoursGoAheadOfReasons();
        tirednessThatIsTooMuch();
        wetnessThatIsTooMuch();
        strongestHorse();
        horseThatCouldRoll();
        noHorseCouldRoll();
        noSuchPitchForAHorse();
        umpireNumbers();
        strictnessOutOfRange();
        umpireIsRefused();
        Due.end();
    }

    /** Promise 10: "Returns its number", from 0 to 4, with a strength from 1 to 9. */
    private static void horseNumbers() {
        RollerHorses x = new RollerHorses();
        int[] strengths = {1, 9, 2, 8, 5};
        for (int h = 0; h < 5; h++) {
            int number = h;
            Due.index("10, not yet: " + h, () -> x.horseOf(number, 0));
            Due.is(number, "10, its number", () -> x.horse(strengths[number], number % 2 == 0));
            Due.is(strengths[number], "10, its strength", () -> x.horseOf(number, 0));
            Due.is(number % 2 == 0 ? 1 : 0, "10, in boots", () -> x.horseOf(number, 1));
            Due.is(number + 1, "10, horses", () -> x.account(4));
        }
    }

    /** Promise 10: "if the strength is out of range", also ahead of reason 1. */
    private static void strengthOutOfRange() {
        for (int strength : NO_GRADES) {
            Thrown.argument("10, out of range: " + strength, RollerHorses::new, x -> x.horse(strength, true));
            Thrown.argument("10, out of range: " + strength, RollerHorses::new, x -> x.horse(strength, false));
            Thrown.argument("10, out of range, ahead of the refusal", () -> Grounds.full(), x -> x.horse(strength, true));
        }
    }

    /** Promise 10: "if it is refused for reason 1; the reason is kept for refusal". */
    private static void horseIsRefused() {
        Thrown.refused("10, refused for reason 1", () -> Grounds.full(), 1, 5, x -> x.horse(1, true));
        Thrown.refused("10, refused for reason 1", () -> Grounds.full(), 1, 5, x -> x.horse(9, false));
        RollerHorses x = new RollerHorses();
        for (int h = 0; h < 5; h++) {
            x.horse(5, true);
        }
        Due.refused(x, 1, 5, "10, refused for reason 1", () -> x.horse(5, true));
        x.undo();
        Due.is(4, "10, there is room again", () -> x.horse(5, false));
        Due.is(4, "10, the new one has no boots", () -> x.account(6));
    }

    /** Promise 11: "Returns how many horses are in boots then", from none to all, also if nothing is different. */
    private static void bootsAnswerHowMany() {
        RollerHorses x = new RollerHorses();
        for (int h = 0; h < 5; h++) {
            x.horse(5, false);
        }
        Due.is(0, "11, none", () -> x.boots(0, false));
        for (int h = 0; h < 5; h++) {
            int number = h;
            Due.is(number + 1, "11, how many", () -> x.boots(number, true));
            Due.is(number + 1, "11, how many, put on again", () -> x.boots(number, true));
        }
        for (int h = 0; h < 5; h++) {
            int number = h;
            Due.is(4 - number, "11, how many", () -> x.boots(number, false));
            Due.is(4 - number, "11, how many, taken off again", () -> x.boots(number, false));
        }
    }

    /** Promise 11: "if there is no such horse". */
    private static void noSuchHorseForBoots() {
        for (int horse : NO_HORSES) {
            Thrown.index("11, no such horse: " + horse, () -> Grounds.full(), x -> x.boots(horse, true));
            Thrown.index("11, no such horse: " + horse, () -> Grounds.full(), x -> x.boots(horse, false));
        }
        Thrown.index("11, no such horse yet", () -> Grounds.playable(), x -> x.boots(1, true));
        Due.is(4, "11, the last horse that does not roll", () -> Grounds.full().boots(3, true));
        Due.is(2, "11, the first horse", () -> Grounds.full().boots(0, false));
    }

    /** Promise 11: "if it is refused for reason 2", for as many hours as the horse still rolls. */
    private static void bootsAreRefused() {
        for (int h = 1; h <= 6; h++) {
            int hours = h;
            Thrown.refused("11, refused for reason 2, put on", () -> rolling(hours), 2, hours, x -> x.boots(0, true));
            Thrown.refused("11, refused for reason 2, taken off", () -> rolling(hours), 2, hours, x -> x.boots(0, false));
        }
        RollerHorses x = rolling(6);
        x.pass(5);
        Due.refused(x, 2, 1, "11, refused in the last hour", () -> x.boots(0, true));
        x.pass(1);
        Due.is(2, "11, not refused behind the last hour", () -> x.boots(0, true));
        Thrown.refused("11, refused for reason 2, horse 4", () -> Grounds.full(), 2, 6, y -> y.boots(4, true));
    }

    private static RollerHorses rolling(int hours) {
        RollerHorses x = Grounds.stable();
        x.roll(0, 0, hours);
        return x;
    }

    /** Promise 12: the number of each what, from the least to the most. */
    private static void horseOfLeastAndMost() {
        RollerHorses x = rolling(6);
        int[][] due = {{1, 0, 0, 6, 0, 0}, {1, 0, 2, 5, 0, 1}, {1, 0, 4, 4, 0, 2}, {1, 0, 6, 3, 0, 3}, {1, 0, 8, 2, 0, 4},
            {1, 0, 10, 1, 0, 5}, {1, 0, 12, 0, -1, 6}, {1, 0, 11, 0, -1, 6}};
        for (int[] row : due) {
            for (int what = 0; what <= 5; what++) {
                int asked = what;
                Due.is(row[asked], "12, what " + what, () -> x.horseOf(0, asked));
            }
            x.pass(1);
        }
        Due.is(10, "12, tiredness", () -> x.horseOf(0, 2));
        x.pass(9);
        Due.is(1, "12, tiredness", () -> x.horseOf(0, 2));
        x.pass(1);
        Due.is(0, "12, tiredness", () -> x.horseOf(0, 2));
        x.pass(1);
        Due.is(0, "12, tiredness is at least 0", () -> x.horseOf(0, 2));
        RollerHorses y = Grounds.full();
        int[] last = {9, 1, 0, 6, 2, 0};
        for (int what = 0; what <= 5; what++) {
            int asked = what;
            Due.is(last[asked], "12, horse 4, what " + what, () -> y.horseOf(4, asked));
        }
        Due.is(20, "12, tiredness is at most 20", () -> tiredTo(20).horseOf(0, 2));
        Due.is(12, "12, hours that it rolled so far", () -> tiredTo(20).horseOf(0, 5));
    }

    /** Horse 0 on pitch 0 with a tiredness from 16 to 20. */
    private static RollerHorses tiredTo(int tiredness) {
        RollerHorses x = rolling(6);
        x.pass(6);
        x.roll(0, 0, 6);
        x.pass(6);
        for (int rest = 20; rest > tiredness; rest--) {
            x.pass(1);
        }
        return x;
    }

    /** Promise 12: "if there is no such horse", also ahead of what. */
    private static void noSuchHorseToAsk() {
        for (int horse : NO_HORSES) {
            Thrown.index("12, no such horse: " + horse, () -> Grounds.full(), x -> x.horseOf(horse, 0));
            Thrown.index("12, no such horse, and what: " + horse, () -> Grounds.full(), x -> x.horseOf(horse, 6));
            Thrown.index("12, no such horse, and what: " + horse, () -> Grounds.full(), x -> x.horseOf(horse, -1));
        }
        Thrown.index("12, no such horse yet", () -> Grounds.playable(), x -> x.horseOf(1, 5));
    }

    /** Promise 12: "if what is not from 0 to 5". */
    private static void whatOfAHorse() {
        for (int what : new int[] {Integer.MIN_VALUE, -1, 6, Integer.MAX_VALUE}) {
            Thrown.argument("12, not from 0 to 5: " + what, () -> Grounds.full(), x -> x.horseOf(0, what));
            Thrown.argument("12, not from 0 to 5: " + what, () -> Grounds.full(), x -> x.horseOf(4, what));
        }
    }

    /** Promise 13: "Returns the hardness that the pitch would have behind them", which is at most 99. */
    private static void hardnessBehindTheRolling() {
        for (int h = 1; h <= 6; h++) {
            int hours = h;
            Due.is(10 + 7 * hours, "13, behind " + hours + " hours", () -> strong(7).roll(0, 0, hours));
            Due.is(10 + hours, "13, behind " + hours + " hours", () -> strong(1).roll(0, 0, hours));
        }
        RollerHorses x = strong(8);
        x.horse(1, true);
        x.roll(0, 0, 6);
        x.pass(6);
        Due.is(98, "13, behind 5 hours more", () -> x.roll(0, 0, 5));
        x.pass(5);
        Due.is(98, "13, as was said", () -> x.pitchOf(0, 1));
        Due.is(99, "13, 98 and 1", () -> x.roll(1, 0, 1));
        x.undo();
        Due.is(99, "13, 98 and 2, at most 99", () -> x.roll(1, 0, 2));
        x.pass(1);
        Due.is(99, "13, the hardness is 99", () -> x.pitchOf(0, 1));
        x.pass(1);
        Due.is(99, "13, the hardness stays 99", () -> x.pitchOf(0, 1));
        Due.is(99, "13, 99 and 6, at most 99", () -> x.roll(1, 0, 6));
    }

    private static RollerHorses strong(int strength) {
        RollerHorses x = new RollerHorses();
        x.pitch();
        x.horse(strength, true);
        return x;
    }

    /** Promise 13: "if there is no such horse or pitch", also ahead of the hours and of a refusal. */
    private static void noSuchHorseOrPitchToRoll() {
        for (int horse : NO_HORSES) {
            Thrown.index("13, no such horse: " + horse, () -> Grounds.full(), x -> x.roll(horse, 0, 1));
            Thrown.index("13, no such horse, and hours: " + horse, () -> Grounds.full(), x -> x.roll(horse, 0, 0));
            Thrown.index("13, no such horse, and a refusal: " + horse, () -> Grounds.full(), x -> x.roll(horse, 2, 1));
        }
        for (int pitch : NO_PITCHES) {
            Thrown.index("13, no such pitch: " + pitch, () -> Grounds.full(), x -> x.roll(0, pitch, 6));
            Thrown.index("13, no such pitch, and hours: " + pitch, () -> Grounds.full(), x -> x.roll(0, pitch, 7));
            Thrown.index("13, no such pitch, and a refusal: " + pitch, () -> Grounds.full(), x -> x.roll(4, pitch, 1));
        }
        Thrown.index("13, no such horse and no such pitch", () -> Grounds.full(), x -> x.roll(5, 4, 7));
        Thrown.index("13, no such horse yet", () -> Grounds.playable(), x -> x.roll(1, 0, 1));
        Thrown.index("13, no such pitch yet", () -> Grounds.playable(), x -> x.roll(0, 1, 1));
    }

    /** Promise 13: "if the number of hours is out of range". */
    private static void rollHoursOutOfRange() {
        for (int hours : NO_ROLL_HOURS) {
            Thrown.argument("13, out of range: " + hours, () -> Grounds.full(), x -> x.roll(0, 0, hours));
        }
    }

    /** Promise 13: "if it is refused for reason 2, 3, 4, 5, 6 or 7", with the least and the greatest detail. */
    private static void rollIsRefusedForEachReason() {
        Thrown.refused("13, reason 2", () -> rolling(6), 2, 6, x -> x.roll(0, 1, 1));
        Thrown.refused("13, reason 2", () -> rolling(1), 2, 1, x -> x.roll(0, 1, 6));
        Thrown.refused("13, reason 3", () -> tiredTo(16), 3, 16, x -> x.roll(0, 0, 1));
        Thrown.refused("13, reason 3", () -> tiredTo(20), 3, 20, x -> x.roll(0, 1, 6));
        Thrown.refused("13, reason 4", () -> rolling(1), 4, 0, x -> x.roll(1, 0, 1));
        Thrown.refused("13, reason 4", () -> Grounds.full(), 4, 4, x -> x.roll(0, 2, 1));
        Thrown.refused("13, reason 5", () -> Grounds.played(6), 5, 0, x -> x.roll(0, 0, 1));
        Thrown.refused("13, reason 5", () -> Grounds.full(), 5, 11, x -> x.roll(0, 1, 6));
        Thrown.refused("13, reason 6", () -> covered(Grounds.stable()), 6, 0, x -> x.roll(0, 0, 1));
        Thrown.refused("13, reason 6", () -> Grounds.full(), 6, 3, x -> x.roll(0, 3, 6));
        Thrown.refused("13, reason 7", () -> Grounds.makeWet(Grounds.stable(), 61), 7, 61, x -> x.roll(0, 0, 1));
        Thrown.refused("13, reason 7", () -> Grounds.makeWet(Grounds.stable(), 99), 7, 99, x -> x.roll(0, 0, 6));
    }

    private static RollerHorses covered(RollerHorses x) {
        x.cover(0, true);
        return x;
    }

    /** Lets it rain for the two hours that begin now, behind which a pitch is wetter than 60. */
    private static RollerHorses rainy(RollerHorses x) {
        int hour = x.account(0) % 24;
        x.rain(hour, 9);
        x.rain(hour + 1, 9);
        x.pass(2);
        return x;
    }

    /** Promise 13: reason 2 ahead of 3, 4, 5, 6 and 7 ("in the order in which it names them"). */
    private static void rollIsRefusedForTheHorseFirst() {
        Thrown.refused("13, reason 2 ahead of 3", () -> {
            RollerHorses x = rolling(6);
            x.pass(6);
            x.roll(0, 0, 6);
            x.pass(2);
            Due.is(16, "13, tiredness", () -> x.horseOf(0, 2));
            return x;
        }, 2, 4, x -> x.roll(0, 1, 1));
        Thrown.refused("13, reason 2 ahead of 4, on its own pitch", () -> rolling(6), 2, 6, x -> x.roll(0, 0, 1));
        Thrown.refused("13, reason 2 ahead of 4", () -> {
            RollerHorses x = rolling(6);
            x.roll(1, 1, 3);
            return x;
        }, 2, 6, x -> x.roll(0, 1, 1));
        Thrown.refused("13, reason 2 ahead of 5", () -> {
            RollerHorses x = rolling(6);
            x.innings(1, 0, 6);
            return x;
        }, 2, 6, x -> x.roll(0, 1, 1));
        Thrown.refused("13, reason 2 ahead of 6", () -> {
            RollerHorses x = rolling(6);
            x.cover(1, true);
            return x;
        }, 2, 6, x -> x.roll(0, 1, 1));
        Thrown.refused("13, reason 2 ahead of 7", () -> {
            RollerHorses x = rainy(rolling(6));
            Due.is('w', "13, pitch 1 is wet", () -> x.sign(1));
            return x;
        }, 2, 4, x -> x.roll(0, 1, 1));
    }

    /** Promise 13: reason 3 ahead of 4, 5, 6 and 7. */
    private static void rollIsRefusedForTirednessNext() {
        Thrown.refused("13, reason 3 ahead of 4", () -> {
            RollerHorses x = Grounds.makeTired(Grounds.stable());
            x.roll(1, 0, 1);
            return x;
        }, 3, 16, x -> x.roll(0, 0, 1));
        Thrown.refused("13, reason 3 ahead of 5", () -> {
            RollerHorses x = Grounds.makeTired(Grounds.stable());
            x.innings(0, 0, 6);
            return x;
        }, 3, 16, x -> x.roll(0, 0, 1));
        Thrown.refused("13, reason 3 ahead of 6", () -> covered(Grounds.makeTired(Grounds.stable())), 3, 16,
            x -> x.roll(0, 0, 1));
        Thrown.refused("13, reason 3 ahead of 7", () -> {
            RollerHorses x = Grounds.stable();
            x.rain(12, 9);
            x.rain(13, 9);
            Grounds.makeTired(x);
            Due.is('w', "13, pitch 0 is wet", () -> x.sign(0));
            return x;
        }, 3, 16, x -> x.roll(0, 0, 1));
    }

    /** Promise 13: reason 4 ahead of 7, 5 ahead of 6 and 7, and 6 ahead of 7. */
    private static void rollIsRefusedForThePitchNext() {
        Thrown.refused("13, reason 4 ahead of 7", () -> {
            RollerHorses x = Grounds.stable();
            x.roll(1, 0, 6);
            rainy(x);
            Due.is(true, "13, pitch 0 is wet", () -> x.pitchOf(0, 0) > 60);
            return x;
        }, 4, 1, x -> x.roll(0, 0, 1));
        Thrown.refused("13, reason 5 ahead of 6", () -> covered(Grounds.played(6)), 5, 0, x -> x.roll(0, 0, 1));
        Thrown.refused("13, reason 5 ahead of 7", () -> {
            RollerHorses x = Grounds.stable();
            x.innings(0, 0, 6);
            rainy(x);
            Due.is(true, "13, pitch 0 is wet", () -> x.pitchOf(0, 0) > 60);
            return x;
        }, 5, 0, x -> x.roll(0, 0, 1));
        Thrown.refused("13, reason 6 ahead of 7", () -> {
            RollerHorses x = rainy(Grounds.stable());
            Due.is('w', "13, pitch 1 is wet", () -> x.sign(1));
            x.cover(1, true);
            return x;
        }, 6, 1, x -> x.roll(0, 1, 1));
    }

    /** Promise 13: "out of range" is documented ahead of each of the reasons. */
    private static void rollHoursGoAheadOfReasons() {
        for (int hours : new int[] {0, 7}) {
            Thrown.argument("13, ahead of reason 2", () -> rolling(6), x -> x.roll(0, 1, hours));
            Thrown.argument("13, ahead of reason 3", () -> tiredTo(16), x -> x.roll(0, 0, hours));
            Thrown.argument("13, ahead of reason 4", () -> Grounds.full(), x -> x.roll(0, 2, hours));
            Thrown.argument("13, ahead of reason 5", () -> Grounds.full(), x -> x.roll(0, 1, hours));
            Thrown.argument("13, ahead of reason 6", () -> Grounds.full(), x -> x.roll(0, 3, hours));
            Thrown.argument("13, ahead of reason 7", () -> Grounds.makeWet(Grounds.stable(), 61), x -> x.roll(0, 0, hours));
        }
    }

    /** Terms, Reasons: "3, the horse is more tired than 15: its tiredness". */
    private static void tirednessThatIsTooMuch() {
        RollerHorses x = Grounds.makeTired(Grounds.stable());
        Due.refused(x, 3, 16, "13, a tiredness of 16", () -> x.roll(0, 0, 1));
        Due.is(1, "14, a tiredness of 16 is too much", () -> x.bestHorse(0));
        x.pass(1);
        Due.is(15, "13, a tiredness of 15", () -> x.horseOf(0, 2));
        Due.is(24, "13, a tiredness of 15 is not too much", () -> x.roll(0, 0, 6));
        RollerHorses y = tiredTo(16);
        Due.is(16, "13, a tiredness of 16", () -> y.horseOf(0, 2));
        y.pass(1);
        Due.is(28, "13, not refused", () -> y.roll(0, 0, 6));
        RollerHorses z = tiredTo(17);
        Due.refused(z, 3, 17, "13, a tiredness of 17", () -> z.roll(0, 0, 1));
    }

    /** Terms, Reasons: "7, the pitch is wetter than 60 and the horse has no boots: the wetness". */
    private static void wetnessThatIsTooMuch() {
        RollerHorses x = Grounds.makeWet(Grounds.stable(), 60);
        Due.is(11, "13, a wetness of 60 without boots", () -> x.roll(0, 0, 1));
        RollerHorses y = Grounds.makeWet(Grounds.stable(), 61);
        Due.refused(y, 7, 61, "13, a wetness of 61 without boots", () -> y.roll(0, 0, 1));
        Due.is(12, "13, a wetness of 61 in boots", () -> y.roll(1, 0, 1));
        RollerHorses z = Grounds.makeWet(Grounds.stable(), 99);
        Due.refused(z, 7, 99, "13, a wetness of 99 without boots", () -> z.roll(0, 0, 1));
        z.boots(0, true);
        Due.is(11, "13, a wetness of 99 in boots", () -> z.roll(0, 0, 1));
    }

    /** Promise 14: "the strongest horse", "of several the least tired one, then the lowest one". */
    private static void strongestHorse() {
        RollerHorses x = new RollerHorses();
        x.pitch();
        x.pitch();
        for (int h = 0; h < 4; h++) {
            x.horse(8, true);
        }
        Due.is(0, "14, the lowest of four", () -> x.bestHorse(0));
        x.horse(9, false);
        Due.is(4, "14, the strongest, the last one", () -> x.bestHorse(1));
        x.roll(4, 1, 6);
        x.roll(0, 0, 1);
        x.pass(1);
        Due.is(1, "14, less tired than horse 0", () -> x.bestHorse(0));
        x.roll(1, 0, 1);
        x.pass(1);
        x.roll(2, 0, 1);
        x.pass(1);
        x.roll(3, 0, 1);
        x.pass(1);
        Due.is("0 0 1 2", "14, tiredness", () -> x.horseOf(0, 2) + " " + x.horseOf(1, 2) + " " + x.horseOf(2, 2) + " "
            + x.horseOf(3, 2));
        Due.is(0, "14, the lowest of the least tired", () -> x.bestHorse(0));
        x.pass(2);
        Due.is(12, "14, tiredness", () -> x.horseOf(4, 2));
        Due.is(4, "14, the strongest, though the most tired", () -> x.bestHorse(0));
        weakestHorse();
    }

    private static void weakestHorse() {
        RollerHorses x = new RollerHorses();
        x.pitch();
        x.horse(1, false);
        Due.is(0, "14, the only one", () -> x.bestHorse(0));
        x.horse(2, false);
        Due.is(1, "14, stronger by 1", () -> x.bestHorse(0));
        x.horse(1, false);
        Due.is(1, "14, stronger than the ones before and behind", () -> x.bestHorse(0));
    }

    /** Promise 14: "that could roll a pitch now": by each of the reasons 2, 3 and 7, which are the horse's. */
    private static void horseThatCouldRoll() {
        RollerHorses x = Grounds.stable();
        Due.is(1, "14, the stronger one", () -> x.bestHorse(0));
        x.roll(1, 1, 1);
        Due.is(0, "14, not one that rolls", () -> x.bestHorse(0));
        x.pass(1);
        Due.is(1, "14, behind its rolling", () -> x.bestHorse(0));
        RollerHorses y = new RollerHorses();
        y.pitch();
        y.horse(9, true);
        y.horse(1, true);
        Grounds.makeTired(y);
        Due.is(1, "14, not one with a tiredness of 16", () -> y.bestHorse(0));
        y.pass(1);
        Due.is(0, "14, one with a tiredness of 15", () -> y.bestHorse(0));
        RollerHorses z = new RollerHorses();
        z.pitch();
        z.horse(9, false);
        z.horse(1, true);
        Grounds.makeWet(z, 60);
        Due.is(0, "14, without boots at a wetness of 60", () -> z.bestHorse(0));
        Grounds.makeWet(z, 61);
        Due.is(1, "14, not without boots at a wetness of 61", () -> z.bestHorse(0));
    }

    /** Promise 14: "NoSuchElementException if there is none", for each of the reasons; none of them is kept. */
    private static void noHorseCouldRoll() {
        Thrown.noElement("14, no horses", () -> {
            RollerHorses x = new RollerHorses();
            x.pitch();
            return x;
        }, x -> x.bestHorse(0));
        Thrown.noElement("14, all roll", () -> {
            RollerHorses x = Grounds.playable();
            x.pitch();
            x.roll(0, 0, 1);
            return x;
        }, x -> x.bestHorse(1));
        Thrown.noElement("14, all are tired", () -> Grounds.makeTired(Grounds.playable()), x -> x.bestHorse(0));
        Thrown.noElement("14, a horse rolls the pitch", () -> Grounds.full(), x -> x.bestHorse(2));
        Thrown.noElement("14, innings are on the pitch", () -> Grounds.full(), x -> x.bestHorse(1));
        Thrown.noElement("14, the pitch has a cover", () -> Grounds.full(), x -> x.bestHorse(3));
        Due.is(3, "14, the strongest that does not roll", () -> Grounds.full().bestHorse(0));
        Thrown.noElement("14, wet, and no boots", () -> {
            RollerHorses x = Grounds.playable();
            x.boots(0, false);
            return Grounds.makeWet(x, 61);
        }, x -> x.bestHorse(0));
    }

    /** Promise 14: "if there is no such pitch", also ahead of none that could. */
    private static void noSuchPitchForAHorse() {
        for (int pitch : NO_PITCHES) {
            Thrown.index("14, no such pitch: " + pitch, () -> Grounds.full(), x -> x.bestHorse(pitch));
        }
        Thrown.index("14, no such pitch yet", () -> Grounds.playable(), x -> x.bestHorse(1));
        Thrown.index("14, no such pitch, and no horses", RollerHorses::new, x -> x.bestHorse(-1));
    }

    /** Promise 15: "Returns the number of the umpire", from 0 to 2, with a strictness from 1 to 9. */
    private static void umpireNumbers() {
        RollerHorses y = new RollerHorses();
        y.pitch();
        Grounds.makeWet(y, 16);
        Due.index("15, not yet", () -> y.call(0, 0));
        Due.is(0, "15, its number", () -> y.umpire(9));
        Due.index("15, not yet", () -> y.call(1, 0));
        Due.is(1, "15, its number", () -> y.umpire(8));
        Due.is(2, "15, its number", () -> y.umpire(1));
        Due.is(3, "15, umpires", () -> y.account(7));
        Due.is(1, "15, a strictness of 9", () -> y.call(0, 0));
        Due.is(0, "15, a strictness of 8", () -> y.call(1, 0));
        Due.is(0, "15, a strictness of 1", () -> y.call(2, 0));
    }

    /** Promise 15: "if it is out of range", also ahead of reason 1. */
    private static void strictnessOutOfRange() {
        for (int strictness : NO_GRADES) {
            Thrown.argument("15, out of range: " + strictness, RollerHorses::new, x -> x.umpire(strictness));
            Thrown.argument("15, out of range, ahead of the refusal", () -> Grounds.full(), x -> x.umpire(strictness));
        }
    }

    /** Promise 15: "if it is refused for reason 1; the reason is kept for refusal". */
    private static void umpireIsRefused() {
        Thrown.refused("15, refused for reason 1", () -> Grounds.full(), 1, 3, x -> x.umpire(1));
        Thrown.refused("15, refused for reason 1", () -> Grounds.full(), 1, 3, x -> x.umpire(9));
        RollerHorses x = new RollerHorses();
        x.umpire(1);
        x.umpire(2);
        x.umpire(3);
        Due.refused(x, 1, 3, "15, refused for reason 1", () -> x.umpire(4));
        x.undo();
        Due.is(2, "15, there is room again", () -> x.umpire(4));
    }
}
