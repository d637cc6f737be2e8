/** The boundary cases of the document's terms: hours that go by, balls, what is in doubt, 512 calls. */
public final class BoundaryTermsTest {
    public static void main(String[] args) {
        hardnessOfAnHour();
        wetnessOfAnHourOfRolling();
        rutsOfAnHour();
        rutsAtTheMost();
        rutsByTheWetnessBehindTheRolling();
        tirednessOfAnHour();
        restOfAnHour();
        noRestInTheLastHour();
        rainOfAnHour();
        lightOfAnHour();
        rainAheadOfLight();
        coverKeepsTheWeatherOff();
        hourOfTheDayComesRound();
        worthsOfBalls();
        sixthBalls();
        sixthBallThatEndsInnings();
        hardnessOfNought();
        oneHorseAndOneInningsOnAPitch();
        coveredAgain();
        reasonsAreNotUndone();
        fiveHundredAndTwelveCalls();
        Due.end();
    }

    /** A pitch, a horse, an umpire in the hour 0, and no rain or light at all. */
    private static RollerHorses dark(int strength, boolean isBooted) {
        RollerHorses x = new RollerHorses();
        x.pitch();
        x.horse(strength, isBooted);
        x.umpire(1);
        return Grounds.makeDark(x);
    }

    private static String pitch(RollerHorses x) {
        return x.pitchOf(0, 0) + " " + x.pitchOf(0, 1) + " " + x.pitchOf(0, 2);
    }

    /** "the hardness becomes its strength more, but at most 99": 97, 98 and 99, from just below and above. */
    private static void hardnessOfAnHour() {
        int[] strengths = {1, 2, 3, 9};
        for (int strength : strengths) {
            RollerHorses x = dark(strength, true);
            x.horse(8, true);
            x.roll(1, 0, 6);
            x.pass(6);
            x.roll(1, 0, 5);
            x.pass(5);
            Due.is(98, "27, hardness", () -> x.pitchOf(0, 1));
            x.roll(0, 0, 2);
            x.pass(1);
            Due.is(99, "27, 98 and " + strength, () -> x.pitchOf(0, 1));
            x.pass(1);
            Due.is(99, "27, 99 and " + strength, () -> x.pitchOf(0, 1));
        }
        RollerHorses y = dark(9, true);
        y.roll(0, 0, 6);
        y.pass(6);
        y.roll(0, 0, 4);
        y.pass(3);
        Due.is(91, "27, hardness", () -> y.pitchOf(0, 1));
        y.pass(1);
        Due.is(99, "27, 91 and 9", () -> y.pitchOf(0, 1));
        RollerHorses z = dark(1, true);
        z.roll(0, 0, 1);
        z.pass(1);
        Due.is(11, "27, 10 and 1", () -> z.pitchOf(0, 1));
    }

    /** "the wetness becomes half of its strength less, but at least 0", for each strength. */
    private static void wetnessOfAnHourOfRolling() {
        for (int s = 1; s <= 9; s++) {
            int half = s / 2;
            RollerHorses x = dark(s, true);
            x.roll(0, 0, 6);
            for (int hour = 1; hour <= 6; hour++) {
                x.pass(1);
                int due = Math.max(0, 20 - half * hour);
                Due.is(due, "27, strength " + s + ", hour " + hour, () -> x.pitchOf(0, 0));
            }
        }
        int[][] wetnesses = {{0, 0}, {1, 0}, {3, 0}, {4, 0}, {5, 1}};
        for (int[] wetness : wetnesses) {
            RollerHorses x = Grounds.makeDark(Grounds.makeWet(dark(9, true), wetness[0]));
            x.roll(0, 0, 1);
            x.pass(1);
            Due.is(wetness[1], "27, " + wetness[0] + " less 4", () -> x.pitchOf(0, 0));
        }
    }

    /** "without boots the ruts become a tenth of the wetness, as it is then, and 1, more". */
    private static void rutsOfAnHour() {
        int[][] wetnesses = {{0, 1}, {1, 1}, {9, 1}, {10, 2}, {19, 2}, {20, 3}, {59, 6}, {60, 7}};
        for (int[] wetness : wetnesses) {
            RollerHorses x = Grounds.makeDark(Grounds.makeWet(dark(1, false), wetness[0]));
            x.roll(0, 0, 1);
            x.pass(1);
            Due.is(wetness[0] + " 11 " + wetness[1], "27, ruts by a wetness of " + wetness[0], () -> pitch(x));
            x.pass(1);
            Due.is(wetness[0] + " 11 " + wetness[1], "27, no more when it does not roll", () -> pitch(x));
            RollerHorses y = Grounds.makeDark(Grounds.makeWet(dark(1, true), wetness[0]));
            y.roll(0, 0, 1);
            y.pass(1);
            Due.is(wetness[0] + " 11 0", "27, none in boots", () -> pitch(y));
        }
        RollerHorses z = dark(1, false);
        z.roll(0, 0, 4);
        z.rain(0, 9);
        z.rain(1, 9);
        z.rain(2, 2);
        z.pass(3);
        Due.is(99, "27, wetness", () -> z.pitchOf(0, 0));
        Due.is(3 + 6 + 10, "27, ruts of 20, 56 and 92", () -> z.pitchOf(0, 2));
        z.pass(1);
        Due.is(3 + 6 + 10 + 10, "27, ruts of 99", () -> z.pitchOf(0, 2));
    }

    /** "more, but at most 99": 98 and 7, and 99 and 7. */
    private static void rutsAtTheMost() {
        RollerHorses x = new RollerHorses();
        x.pitch();
        x.horse(1, false);
        x.horse(1, false);
        Grounds.makeDark(Grounds.makeWet(x, 60));
        x.roll(0, 0, 6);
        x.pass(6);
        x.roll(0, 0, 6);
        x.pass(6);
        x.roll(1, 0, 4);
        x.pass(2);
        Due.is("60 24 98", "27, 14 hours of 7 ruts each", () -> pitch(x));
        x.pass(1);
        Due.is("60 25 99", "27, 98 and 7", () -> pitch(x));
        x.pass(1);
        Due.is("60 26 99", "27, 99 and 7", () -> pitch(x));
    }

    /** In doubt: "Ruts are made by the wetness as it is behind the rolling of that hour", ahead of the weather. */
    private static void rutsByTheWetnessBehindTheRolling() {
        RollerHorses x = dark(2, false);
        x.rain(0, 9);
        x.roll(0, 0, 1);
        x.pass(1);
        Due.is("55 12 2", "27, ruts of 19, not of 20 or 55", () -> pitch(x));
        RollerHorses y = Grounds.makeDark(Grounds.makeWet(dark(9, false), 12));
        y.roll(0, 0, 1);
        y.pass(1);
        Due.is("8 19 1", "27, ruts of 8, not of 12", () -> pitch(y));
        RollerHorses z = Grounds.makeDark(Grounds.makeWet(dark(1, false), 10));
        z.light(z.account(0) % 24, 9);
        z.roll(0, 0, 1);
        z.pass(1);
        Due.is("6 11 2", "27, ruts of 10, not of 6", () -> pitch(z));
    }

    /** "Its tiredness becomes 2 more, but at most 20, and its hours 1 less". */
    private static void tirednessOfAnHour() {
        RollerHorses x = Grounds.makeTired(dark(1, true));
        x.pass(1);
        x.roll(0, 0, 6);
        int[] tiredness = {17, 19, 20, 20, 20, 20};
        for (int hour = 0; hour < 6; hour++) {
            int due = tiredness[hour];
            int left = 5 - hour;
            x.pass(1);
            Due.is(due, "27, tiredness, odd", () -> x.horseOf(0, 2));
            Due.is(left, "27, hours still", () -> x.horseOf(0, 3));
        }
        RollerHorses y = Grounds.makeTired(dark(1, true));
        y.pass(2);
        Due.is(14, "27, tiredness", () -> y.horseOf(0, 2));
        y.roll(0, 0, 4);
        int[] even = {16, 18, 20, 20};
        for (int hour = 0; hour < 4; hour++) {
            int due = even[hour];
            y.pass(1);
            Due.is(due, "27, tiredness, even", () -> y.horseOf(0, 2));
        }
        y.pass(1);
        Due.is(19, "27, it rests", () -> y.horseOf(0, 2));
    }

    /** "each other horse has a tiredness that is 1 less, but at least 0". */
    private static void restOfAnHour() {
        RollerHorses x = dark(1, true);
        x.horse(1, true);
        x.roll(0, 0, 1);
        x.pass(1);
        x.roll(1, 0, 2);
        Due.is("2 0", "27, tiredness", () -> x.horseOf(0, 2) + " " + x.horseOf(1, 2));
        x.pass(1);
        Due.is("1 2", "27, one rests while the other rolls", () -> x.horseOf(0, 2) + " " + x.horseOf(1, 2));
        x.pass(1);
        Due.is("0 4", "27, one rests while the other rolls", () -> x.horseOf(0, 2) + " " + x.horseOf(1, 2));
        x.pass(1);
        Due.is("0 3", "27, at least 0", () -> x.horseOf(0, 2) + " " + x.horseOf(1, 2));
        x.pass(72);
        Due.is("0 0", "27, at least 0", () -> x.horseOf(0, 2) + " " + x.horseOf(1, 2));
    }

    /** In doubt: "A horse does not rest in the hour in which its rolling ends." */
    private static void noRestInTheLastHour() {
        RollerHorses x = dark(1, true);
        x.roll(0, 0, 1);
        x.pass(1);
        Due.is(2, "27, no rest in the only hour", () -> x.horseOf(0, 2));
        RollerHorses y = dark(1, true);
        y.roll(0, 0, 6);
        y.pass(6);
        Due.is(12, "27, no rest in the last hour", () -> y.horseOf(0, 2));
        RollerHorses z = dark(1, true);
        z.roll(0, 0, 6);
        z.pass(7);
        Due.is(11, "27, rest in the hour behind it", () -> z.horseOf(0, 2));
    }

    /** "becomes 4 times the rain of this hour of the day more, but at most 99", for each rain. */
    private static void rainOfAnHour() {
        for (int rain = 0; rain <= 9; rain++) {
            RollerHorses x = dark(1, true);
            x.rain(0, rain);
            x.pass(1);
            int due = 20 + 4 * rain;
            Due.is(due, "27, rain of " + rain, () -> x.pitchOf(0, 0));
        }
        int[][] wetnesses = {{94, 98}, {95, 99}, {96, 99}, {99, 99}};
        for (int[] wetness : wetnesses) {
            RollerHorses x = Grounds.makeDark(Grounds.makeWet(dark(1, true), wetness[0]));
            x.rain(x.account(0) % 24, 1);
            x.pass(1);
            Due.is(wetness[1], "27, " + wetness[0] + " and 4", () -> x.pitchOf(0, 0));
        }
    }

    /** "then half of the light of this hour of the day less, but at least 0", for each light. */
    private static void lightOfAnHour() {
        for (int light = 0; light <= 9; light++) {
            RollerHorses x = dark(1, true);
            x.light(0, light);
            x.pass(1);
            int due = 20 - light / 2;
            Due.is(due, "27, light of " + light, () -> x.pitchOf(0, 0));
        }
        int[][] wetnesses = {{0, 0}, {1, 0}, {3, 0}, {4, 0}, {5, 1}};
        for (int[] wetness : wetnesses) {
            RollerHorses x = Grounds.makeDark(Grounds.makeWet(dark(1, true), wetness[0]));
            x.light(x.account(0) % 24, 9);
            x.pass(1);
            Due.is(wetness[1], "27, " + wetness[0] + " less 4", () -> x.pitchOf(0, 0));
        }
    }

    /** "4 times the rain ... more, but at most 99, and then half of the light ... less, but at least 0". */
    private static void rainAheadOfLight() {
        int[][] wetnesses = {{99, 95}, {96, 95}, {95, 95}, {94, 94}, {0, 0}};
        for (int[] wetness : wetnesses) {
            RollerHorses x = Grounds.makeDark(Grounds.makeWet(dark(1, true), wetness[0]));
            x.rain(x.account(0) % 24, 1);
            x.light(x.account(0) % 24, 9);
            x.pass(1);
            Due.is(wetness[1], "27, " + wetness[0] + " and 4, then less 4", () -> x.pitchOf(0, 0));
        }
    }

    /** "the wetness of each pitch without a cover", while a horse never rolls one with a cover. */
    private static void coverKeepsTheWeatherOff() {
        RollerHorses x = dark(1, true);
        x.pitch();
        x.rain(0, 9);
        x.light(1, 9);
        x.cover(0, true);
        x.pass(1);
        Due.is("20 56", "27, rain", () -> x.pitchOf(0, 0) + " " + x.pitchOf(1, 0));
        x.pass(1);
        Due.is("20 52", "27, light", () -> x.pitchOf(0, 0) + " " + x.pitchOf(1, 0));
        x.cover(0, false);
        x.pass(23);
        Due.is("56 88", "27, rain of the next day", () -> x.pitchOf(0, 0) + " " + x.pitchOf(1, 0));
    }

    /** "the hour of the day is the hour modulo 24", of an hour that goes by as of one that is. */
    private static void hourOfTheDayComesRound() {
        RollerHorses x = dark(1, true);
        x.rain(0, 1);
        x.rain(23, 2);
        x.pass(1);
        Due.is(24, "27, the hour 0 went by", () -> x.pitchOf(0, 0));
        x.pass(22);
        Due.is(24, "27, the hours to 22 went by", () -> x.pitchOf(0, 0));
        x.pass(1);
        Due.is(32, "27, the hour 23 went by", () -> x.pitchOf(0, 0));
        Due.is(24, "32, the hour, not of the day", () -> x.account(0));
        x.pass(1);
        Due.is(36, "27, the hour 24 went by", () -> x.pitchOf(0, 0));
        x.pass(72);
        Due.is(36 + 3 * 12, "27, three days more", () -> x.pitchOf(0, 0));
        Due.is(97, "32, the hour", () -> x.account(0));
    }

    /** "what is left when the hardness of the pitch, three times the number of the ball, and the ruts ... are divided by 7". */
    private static void worthsOfBalls() {
        for (int hours = 0; hours <= 6; hours++) {
            for (boolean isBooted : new boolean[] {false, true}) {
                RollerHorses x = dark(1, isBooted);
                rollFor(x, hours);
                x.light(x.account(0) % 24, 3);
                int sum = 10 + hours + (isBooted ? 0 : 3 * hours);
                x.innings(0, 0, 120);
                for (int b = 0; b < 6; b++) {
                    int worth = (sum + 3 * b) % 7;
                    int before = x.balls(0, worth);
                    int runs = worth == 5 ? 0 : worth;
                    Due.is(runs, "20, ball " + b + " of " + sum, () -> x.bowl(0, 1));
                    Due.is(before + 1, "24, ball " + b + " of " + sum, () -> x.balls(0, worth));
                }
                Due.is(x.balls(0, 5), "23, wickets", () -> x.inningsOf(0, 5));
            }
        }
    }

    private static void rollFor(RollerHorses x, int hours) {
        if (hours > 0) {
            x.roll(0, 0, hours);
            x.pass(hours);
        }
    }

    /** "Behind the balls 5, 11, 17 and so on, each sixth one, the hardness becomes 1 less", by the balls of the innings. */
    private static void sixthBalls() {
        RollerHorses x = Grounds.played(120);
        for (int ball = 0; ball < 61; ball++) {
            int due = 10 - ball / 6;
            Due.is(due, "20, hardness ahead of ball " + ball, () -> x.pitchOf(0, 1));
            x.bowl(0, 1);
        }
        Due.is(0, "20, hardness", () -> x.pitchOf(0, 1));
        RollerHorses y = Grounds.played(6);
        y.bowl(0, 5);
        y.end(0);
        y.innings(0, 0, 6);
        y.bowl(1, 5);
        Due.is(10, "20, the balls are numbered by innings, not by pitch", () -> y.pitchOf(0, 1));
        y.bowl(1, 1);
        Due.is(9, "20, the sixth ball of innings 1", () -> y.pitchOf(0, 1));
    }

    /** In doubt: "The hardness becomes less behind a sixth ball also if the innings are over with it." */
    private static void sixthBallThatEndsInnings() {
        RollerHorses x = Grounds.played(6);
        x.bowl(0, 6);
        Due.is(1, "20, over by the balls", () -> x.inningsOf(0, 6));
        Due.is(9, "20, hardness", () -> x.pitchOf(0, 1));
        for (int balls : new int[] {72, 120}) {
            RollerHorses y = Grounds.playable();
            y.horse(3, true);
            y.roll(1, 0, 1);
            y.pass(1);
            y.innings(0, 0, balls);
            Due.is(80, "20, runs of 36 balls on a hardness of 13", () -> y.bowl(0, 36));
            Due.is(84, "20, runs of 36 balls more", () -> y.bowl(0, 36));
            Due.is("72 10 1", "20, over by the wickets, ball 71", () -> y.inningsOf(0, 3) + " " + y.inningsOf(0, 5) + " "
                + y.inningsOf(0, 6));
            Due.is(1, "20, hardness", () -> y.pitchOf(0, 1));
        }
    }

    /** "the hardness becomes 1 less, but at least 0". */
    private static void hardnessOfNought() {
        RollerHorses x = Grounds.played(120);
        x.bowl(0, 36);
        x.bowl(0, 36);
        Due.is(0, "20, hardness", () -> x.pitchOf(0, 1));
        x.innings(0, 0, 12);
        // 0 3 6 2 5 1, then, as the hardness stays 0, 4 0 3 6 2 5.
        Due.is(12, "20, 6 balls on a hardness of 0", () -> x.bowl(1, 6));
        Due.is(0, "20, at least 0", () -> x.pitchOf(0, 1));
        Due.is(15, "20, 6 balls on a hardness of 0", () -> x.bowl(1, 6));
        Due.is(0, "20, at least 0", () -> x.pitchOf(0, 1));
    }

    /** "A pitch is rolled by at most one horse." and "On a pitch are at most one innings that are not over." */
    private static void oneHorseAndOneInningsOnAPitch() {
        RollerHorses x = Grounds.stable();
        x.roll(0, 0, 1);
        Due.refused(x, 4, 0, "13, one horse", () -> x.roll(1, 0, 1));
        Due.is(12, "13, each its own pitch", () -> x.roll(1, 1, 1));
        Due.is(2, "32, horses that roll", () -> x.account(5));
        RollerHorses y = Grounds.stable();
        y.innings(0, 0, 6);
        Due.refused(y, 5, 0, "19, one innings", () -> y.innings(0, 0, 6));
        Due.is(1, "19, each their own pitch", () -> y.innings(1, 0, 6));
        Due.is(0, "32, innings that are over", () -> y.account(9));
    }

    /** In doubt: "A pitch with a cover can be covered again." */
    private static void coveredAgain() {
        RollerHorses x = Grounds.full();
        Due.is(20, "7, covered again", () -> x.cover(3, true));
        Due.is(1, "32, pitches with covers", () -> x.account(3));
        Due.is(2, "29, covered again in a text", () -> Due.read(x, "c3;c3"));
        Due.is(1, "32, pitches with covers", () -> x.account(3));
        x.undo();
        x.undo();
        Due.is(1, "36, the cover ahead of them stays", () -> x.account(3));
    }

    /** "The input, the error position and the reason are neither undone nor saved, and stay." */
    private static void reasonsAreNotUndone() {
        RollerHorses x = Grounds.full();
        x.save();
        Due.refused(x, 9, 0, "31, refused", () -> x.end(0));
        Due.argument("30, an error", () -> Due.read(x, "hx"));
        x.append('h');
        x.bell(3);
        x.undo();
        Due.is("9 0 1 1", "36, they stay", () -> kept(x));
        x.restore();
        Due.is("9 0 1 1", "38, they stay", () -> kept(x));
        Due.is(2, "28, the input stays", () -> x.append('2'));
        Due.is(1, "29, the input stays", () -> x.read());
        Due.is(8, "29, the hour", () -> x.account(0));
        x.undo();
        Due.is("9 0 -1 0", "36, the text does not come back", () -> kept(x));
    }

    private static String kept(RollerHorses x) {
        return x.refusal(false) + " " + x.refusal(true) + " " + x.errorPosition() + " " + x.account(15);
    }

    /** "An object is used for at most 512 calls after it has been made": the 512th is answered, too. */
    private static void fiveHundredAndTwelveCalls() {
        RollerHorses x = new RollerHorses();
        for (int call = 1; call <= 511; call++) {
            x.pass(72);
        }
        Due.is(511 * 72, "27, the 512th call", () -> x.account(0));
        RollerHorses y = new RollerHorses();
        for (int call = 1; call <= 510; call++) {
            if (call % 61 != 0) {
                y.append(';');
            } else {
                Due.argument("29, call " + call, () -> y.read());
            }
        }
        Due.is(22, "32, the 511th call", () -> y.account(15));
        Due.is(23, "28, the 512th call", () -> y.append('c'));
        RollerHorses z = new RollerHorses();
        for (int call = 1; call <= 510; call++) {
            Due.index("7, call " + call, () -> z.cover(0, true));
        }
        Due.is(0, "6, the 511th call", () -> z.pitch());
        Due.is(20, "7, the 512th call", () -> z.cover(0, true));
    }
}
