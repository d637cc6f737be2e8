/**
 * The boundary cases of promises 19 to 27. On a pitch with a hardness of 10 and no ruts the overs of
 * six balls bring 16, 13, 10, 14, 16 (without a wicket), 15, 12, 16, 13 and 10 runs and a wicket
 * each; the tenth wicket is ball 60.
 */
public final class BoundaryInningsTest {
    private static final int[] NO_INNINGS = {Integer.MIN_VALUE, -1, 12, 13, Integer.MAX_VALUE};
    private static final int[] NO_PITCHES = {Integer.MIN_VALUE, -1, 4, 5, Integer.MAX_VALUE};
    private static final int[] NO_UMPIRES = {Integer.MIN_VALUE, -1, 3, 4, Integer.MAX_VALUE};
    private static final int[] NO_BALLS_IN_ALL = {Integer.MIN_VALUE, -1, 0, 5, 121, Integer.MAX_VALUE};
    private static final int[] NO_BALLS_AT_ONCE = {Integer.MIN_VALUE, -1, 0, 37, Integer.MAX_VALUE};

    public static void main(String[] args) {
        inningsNumbers();
        noSuchPitchOrUmpire();
        ballsInAllOutOfRange();
        inningsAreRefused();
        inningsAreRefusedForTheFirst();
        bowlUntilSoMany();
        bowlUntilTheyAreOver();
        noSuchInningsToBowl();
        ballsAtOnceOutOfRange();
        bowlIsRefused();
        bowlIsRefusedForTheFirst();
        bowlAsksTheUmpireOfTheInnings();
        wouldWhateverIsCalled();
        wouldWhenOver();
        noSuchInningsThatWould();
        endAnswersRuns();
        noSuchInningsToEnd();
        endIsRefused();
        inningsOfLeastAndMost();
        whatOfInnings();
        ballsOfEachWorth();
        noSuchWorth();
        runsByTheSecondWay();
        rankedInOrder();
        noSuchPlace();
        hoursGoBy();
        hoursOutOfRange();
        Due.end();
    }

    /** Promise 19: "Returns their number", from 0 to 11, for 6 to 120 balls. */
    private static void inningsNumbers() {
        RollerHorses x = Grounds.playable();
        int[] balls = {6, 120, 7, 119, 36, 37, 60, 61, 6, 6, 6, 120};
        for (int i = 0; i < 12; i++) {
            int number = i;
            Due.index("19, not yet: " + i, () -> x.inningsOf(number, 0));
            Due.is(number, "19, their number", () -> x.innings(0, 0, balls[number]));
            Due.is(balls[number], "19, the balls that they are for", () -> x.inningsOf(number, 2));
            Due.is(0, "19, not over", () -> x.inningsOf(number, 6));
            x.end(number);
        }
    }

    /** Promise 19: "if there is no such pitch or umpire", also ahead of the balls and of a refusal. */
    private static void noSuchPitchOrUmpire() {
        for (int pitch : NO_PITCHES) {
            Thrown.index("19, no such pitch: " + pitch, () -> Grounds.played(6), x -> x.innings(pitch, 0, 6));
            Thrown.index("19, no such pitch, and balls: " + pitch, () -> Grounds.full(), x -> x.innings(pitch, 0, 5));
            Thrown.index("19, no such pitch, and refused: " + pitch, () -> Grounds.full(), x -> x.innings(pitch, 0, 6));
        }
        for (int umpire : NO_UMPIRES) {
            Thrown.index("19, no such umpire: " + umpire, () -> Grounds.playable(), x -> x.innings(0, umpire, 6));
            Thrown.index("19, no such umpire, and balls: " + umpire, () -> Grounds.full(), x -> x.innings(0, umpire, 121));
            Thrown.index("19, no such umpire, and refused: " + umpire, () -> Grounds.full(), x -> x.innings(1, umpire, 6));
        }
        Thrown.index("19, neither", () -> Grounds.full(), x -> x.innings(4, 3, 5));
        Thrown.index("19, no such pitch yet", () -> Grounds.playable(), x -> x.innings(1, 0, 6));
        Thrown.index("19, no such umpire yet", () -> Grounds.playable(), x -> x.innings(0, 1, 6));
    }

    /** Promise 19: "if the number of balls is out of range", also ahead of each reason. */
    private static void ballsInAllOutOfRange() {
        for (int balls : NO_BALLS_IN_ALL) {
            Thrown.argument("19, out of range: " + balls, () -> Grounds.playable(), x -> x.innings(0, 0, balls));
            Thrown.argument("19, ahead of reason 1: " + balls, () -> Grounds.full(), x -> x.innings(0, 0, balls));
            Thrown.argument("19, ahead of reason 5: " + balls, () -> Grounds.played(6), x -> x.innings(0, 0, balls));
            Thrown.argument("19, ahead of reason 8: " + balls, () -> covered(Grounds.playable()),
                x -> x.innings(0, 0, balls));
        }
    }

    private static RollerHorses covered(RollerHorses x) {
        x.cover(0, true);
        return x;
    }

    /** Promise 19: "if it is refused for reason 1, 5 or 8", with the least and the greatest detail. */
    private static void inningsAreRefused() {
        Thrown.refused("19, reason 1", () -> Grounds.full(), 1, 12, x -> x.innings(0, 0, 6));
        Thrown.refused("19, reason 5, innings 0", () -> Grounds.played(6), 5, 0, x -> x.innings(0, 0, 120));
        Thrown.refused("19, reason 5, innings 10", () -> elevenInnings(false), 5, 10, x -> x.innings(0, 0, 6));
        Thrown.refused("19, reason 8, a cover", () -> covered(Grounds.playable()), 8, 6, x -> x.innings(0, 0, 6));
        Due.is(11, "19, the last innings", () -> elevenInnings(true).innings(0, 0, 6));
        RollerHorses x = elevenInnings(true);
        x.innings(0, 0, 6);
        Due.refused(x, 1, 12, "19, no room", () -> x.innings(0, 0, 6));
        x.undo();
        Due.is(11, "19, there is room again", () -> x.innings(0, 0, 120));
    }

    /** Eleven innings on pitch 0, all over but perhaps the last ones. */
    private static RollerHorses elevenInnings(boolean isAllOver) {
        RollerHorses x = Grounds.playable();
        for (int i = 0; i < 11; i++) {
            x.innings(0, 0, 6);
            if (i < 10 || isAllOver) {
                x.end(i);
            }
        }
        return x;
    }

    /** Promise 19: reason 1 ahead of 5 and 8, and 5 ahead of 8. */
    private static void inningsAreRefusedForTheFirst() {
        Thrown.refused("19, reason 1 ahead of 5", () -> Grounds.full(), 1, 12, x -> x.innings(1, 0, 6));
        Thrown.refused("19, reason 1 ahead of 8, a horse", () -> Grounds.full(), 1, 12, x -> x.innings(2, 0, 6));
        Thrown.refused("19, reason 1 ahead of 8, a cover", () -> Grounds.full(), 1, 12, x -> x.innings(3, 0, 6));
        Thrown.refused("19, reason 1 ahead of 8, wet", () -> Grounds.full(), 1, 12, x -> x.innings(0, 2, 6));
        Thrown.refused("19, reason 5 ahead of 8", () -> covered(Grounds.played(6)), 5, 0, x -> x.innings(0, 0, 6));
    }

    /** Promise 20: "Bowls balls, one after the other, until so many are bowled", 1 to 36 of them. */
    private static void bowlUntilSoMany() {
        RollerHorses x = Grounds.played(120);
        int[] runs = {3, 6, 2, 0, 1, 4, 6, 2, 0, 1, 4, 0};
        for (int ball = 0; ball < 12; ball++) {
            int due = runs[ball];
            Due.is(due, "20, ball " + ball, () -> x.bowl(0, 1));
        }
        Due.is(12, "20, bowled", () -> x.inningsOf(0, 3));
        Due.is(84, "20, 36 balls", () -> Grounds.played(120).bowl(0, 36));
        Due.is(84, "20, all of 36 balls", () -> Grounds.played(36).bowl(0, 36));
        Due.is(84 - 15, "20, 30 balls", () -> Grounds.played(36).bowl(0, 30));
        RollerHorses y = Grounds.played(60);
        y.bowl(0, 36);
        Due.is(51, "20, the last 24 balls", () -> y.bowl(0, 24));
        Due.is("60 9 1", "20, over, by the balls", () -> bowledWicketsOver(y));
        RollerHorses z = Grounds.played(7);
        z.bowl(0, 6);
        Due.is(0, "20, not over", () -> z.inningsOf(0, 6));
        Due.is(6, "20, the last ball", () -> z.bowl(0, 1));
        Due.is(1, "20, over", () -> z.inningsOf(0, 6));
    }

    private static String bowledWicketsOver(RollerHorses x) {
        return x.inningsOf(0, 3) + " " + x.inningsOf(0, 5) + " " + x.inningsOf(0, 6);
    }

    /** Promise 20: "until so many are bowled or the innings are over", which they are when 10 wickets fell. */
    private static void bowlUntilTheyAreOver() {
        RollerHorses x = Grounds.played(120);
        x.bowl(0, 36);
        Due.is(51, "20, 25 of 36 balls", () -> x.bowl(0, 36));
        Due.is("61 10 1", "20, over, by the wickets", () -> bowledWicketsOver(x));
        Due.is(61, "20, no more balls on the pitch", () -> x.pitchOf(0, 6));
        RollerHorses y = Grounds.played(120);
        y.bowl(0, 36);
        y.bowl(0, 24);
        Due.is("60 9 0", "20, not over with 9 wickets", () -> bowledWicketsOver(y));
        Due.is(0, "20, the tenth wicket brings no run", () -> y.bowl(0, 36));
        Due.is("61 10 1", "20, over, by the wickets", () -> bowledWicketsOver(y));
        RollerHorses z = Grounds.played(61);
        z.bowl(0, 36);
        z.bowl(0, 25);
        Due.is("61 10 1", "20, over, by both", () -> bowledWicketsOver(z));
        Due.is(135, "20, runs", () -> z.inningsOf(0, 4));
    }

    /** Promise 20: "if there are no such innings", also ahead of the number of balls. */
    private static void noSuchInningsToBowl() {
        for (int innings : NO_INNINGS) {
            Thrown.index("20, no such innings: " + innings, () -> Grounds.full(), x -> x.bowl(innings, 1));
            Thrown.index("20, no such innings, and balls: " + innings, () -> Grounds.full(), x -> x.bowl(innings, 0));
            Thrown.index("20, no such innings, and balls: " + innings, () -> Grounds.full(), x -> x.bowl(innings, 37));
        }
        Thrown.index("20, no such innings yet", () -> Grounds.played(6), x -> x.bowl(1, 1));
    }

    /** Promise 20: "if the number of balls is out of range", also ahead of each reason. */
    private static void ballsAtOnceOutOfRange() {
        for (int balls : NO_BALLS_AT_ONCE) {
            Thrown.argument("20, out of range: " + balls, () -> Grounds.played(120), x -> x.bowl(0, balls));
            Thrown.argument("20, ahead of reason 9: " + balls, () -> Grounds.full(), x -> x.bowl(0, balls));
            Thrown.argument("20, ahead of reason 10: " + balls, () -> Grounds.played(6), x -> x.bowl(0, balls));
            Thrown.argument("20, ahead of reason 8: " + balls, () -> covered(Grounds.played(120)), x -> x.bowl(0, balls));
        }
    }

    /** Promise 20: "if it is refused for reason 9, 10 or 8", with the least and the greatest detail. */
    private static void bowlIsRefused() {
        Thrown.refused("20, reason 9, all bowled", () -> bowledOut(6), 9, 0, x -> x.bowl(0, 1));
        Thrown.refused("20, reason 9, 10 wickets", () -> bowledOut(120), 9, 0, x -> x.bowl(0, 1));
        Thrown.refused("20, reason 9, ended", () -> Grounds.full(), 9, 10, x -> x.bowl(10, 1));
        Thrown.refused("20, reason 9, innings 11", () -> {
            RollerHorses x = Grounds.full();
            x.end(11);
            return x;
        }, 9, 11, x -> x.bowl(11, 36));
        Thrown.refused("20, reason 10, 35 left", () -> Grounds.played(35), 10, 35, x -> x.bowl(0, 36));
        Thrown.refused("20, reason 10, 6 left", () -> Grounds.played(6), 10, 6, x -> x.bowl(0, 7));
        Thrown.refused("20, reason 10, 26 left", () -> Grounds.full(), 10, 26, x -> x.bowl(11, 27));
        RollerHorses y = Grounds.played(6);
        y.bowl(0, 5);
        Due.refused(y, 10, 1, "20, reason 10, 1 left", () -> y.bowl(0, 2));
        Due.refused(y, 10, 1, "20, reason 10, 1 left", () -> y.bowl(0, 36));
        Due.is(4, "20, as many as are left", () -> y.bowl(0, 1));
        Due.is(true, "20, as many as are left", () -> Grounds.full().bowl(11, 26) > 0);
    }

    /** Innings for so many balls, of which all are bowled that can be. */
    private static RollerHorses bowledOut(int balls) {
        RollerHorses x = Grounds.played(balls);
        x.bowl(0, Math.min(36, balls));
        if (balls > 36) {
            x.bowl(0, 36);
        }
        Due.is(1, "they are over", () -> x.inningsOf(0, 6));
        return x;
    }

    /** Promise 20: reason 9 ahead of 10 and 8, and 10 ahead of 8 ("refused for reason 9, 10 or 8"). */
    private static void bowlIsRefusedForTheFirst() {
        Thrown.refused("20, reason 9 ahead of 10, all bowled", () -> bowledOut(6), 9, 0, x -> x.bowl(0, 36));
        Thrown.refused("20, reason 9 ahead of 10, ended", () -> {
            RollerHorses x = Grounds.played(6);
            x.end(0);
            return x;
        }, 9, 0, x -> x.bowl(0, 7));
        Thrown.refused("20, reason 9 ahead of 8", () -> covered(bowledOut(120)), 9, 0, x -> x.bowl(0, 1));
        Thrown.refused("20, reason 9 ahead of 10 and 8", () -> covered(bowledOut(6)), 9, 0, x -> x.bowl(0, 1));
        Thrown.refused("20, reason 10 ahead of 8", () -> covered(Grounds.played(6)), 10, 6, x -> x.bowl(0, 7));
        Thrown.refused("20, then reason 8", () -> covered(Grounds.played(6)), 8, 6, x -> x.bowl(0, 6));
    }

    /** Promise 20: reason 8 for each call of the umpire of the innings; 5 cannot be, as they keep horses off. */
    private static void bowlAsksTheUmpireOfTheInnings() {
        Thrown.refused("20, reason 8, a cover", () -> covered(strict()), 8, 6, x -> x.bowl(0, 1));
        Thrown.refused("20, reason 8, tea", () -> {
            RollerHorses x = strict();
            x.bell(x.account(0) % 24);
            return x;
        }, 8, 4, x -> x.bowl(0, 1));
        Thrown.refused("20, reason 8, rain", () -> {
            RollerHorses x = strict();
            x.rain(x.account(0) % 24, 1);
            return x;
        }, 8, 3, x -> x.bowl(0, 1));
        Thrown.refused("20, reason 8, light", () -> {
            RollerHorses x = strict();
            x.light(x.account(0) % 24, 2);
            return x;
        }, 8, 2, x -> x.bowl(0, 1));
        Thrown.refused("20, reason 8, wet by its strictness", () -> Grounds.makeWet(strict(), 16), 8, 1, x -> x.bowl(0, 1));
        Due.is(3, "20, not wet by its strictness", () -> Grounds.makeWet(strict(), 15).bowl(0, 1));
    }

    /** Innings with the second, stricter umpire. */
    private static RollerHorses strict() {
        RollerHorses x = Grounds.makeWet(Grounds.playable(), 15);
        x.umpire(9);
        x.innings(0, 1, 12);
        return x;
    }

    /** Promise 21: "Returns the runs that balls would bring, whatever the umpire calls", 1 to 36 of them. */
    private static void wouldWhateverIsCalled() {
        int[] sums = {3, 9, 11, 11, 12, 16, 22, 24, 24, 25, 29, 29};
        for (int b = 1; b <= 12; b++) {
            int balls = b;
            int due = sums[b - 1];
            Due.is(due, "21, " + balls + " balls", () -> Grounds.played(120).would(0, balls));
            Due.is(due, "21, covered, " + balls + " balls", () -> covered(Grounds.played(120)).would(0, balls));
        }
        RollerHorses x = Grounds.played(120);
        String before = State.of(Grounds.played(120));
        Due.is(84, "21, 36 balls", () -> x.would(0, 36));
        Due.is(84, "21, 36 balls again", () -> x.would(0, 36));
        Due.is(before, "21, none is bowled", () -> State.of(x));
    }

    /** Promise 21: "0 if the innings are over"; Terms, In doubt: "ends when the innings are over, also if there are fewer left". */
    private static void wouldWhenOver() {
        Due.is(16, "21, 6 are left", () -> Grounds.played(6).would(0, 6));
        Due.is(16, "21, 6 are left, of 7", () -> Grounds.played(6).would(0, 7));
        Due.is(16, "21, 6 are left, of 36", () -> Grounds.played(6).would(0, 36));
        RollerHorses x = Grounds.played(120);
        x.bowl(0, 36);
        Due.is(51, "21, until the tenth wicket, of 36", () -> x.would(0, 36));
        Due.is(51, "21, until the tenth wicket, of 25", () -> x.would(0, 25));
        Due.is(51, "21, 24 balls", () -> x.would(0, 24));
        Due.is(48, "21, 23 balls", () -> x.would(0, 23));
        for (int balls : new int[] {1, 36}) {
            Due.is(0, "21, all bowled", () -> bowledOut(6).would(0, balls));
            Due.is(0, "21, 10 wickets", () -> bowledOut(120).would(0, balls));
            Due.is(0, "21, ended", () -> Grounds.full().would(0, balls));
        }
    }

    /** Promise 21: "if there are no such innings", ahead of "if the number of balls is out of range", which goes ahead of over. */
    private static void noSuchInningsThatWould() {
        for (int innings : NO_INNINGS) {
            Thrown.index("21, no such innings: " + innings, () -> Grounds.full(), x -> x.would(innings, 1));
            Thrown.index("21, no such innings, and balls: " + innings, () -> Grounds.full(), x -> x.would(innings, 37));
            Thrown.index("21, no such innings, and balls: " + innings, () -> Grounds.full(), x -> x.would(innings, 0));
        }
        Thrown.index("21, no such innings yet", () -> Grounds.played(6), x -> x.would(1, 1));
        for (int balls : NO_BALLS_AT_ONCE) {
            Thrown.argument("21, out of range: " + balls, () -> Grounds.played(120), x -> x.would(0, balls));
            Thrown.argument("21, out of range, over: " + balls, () -> bowledOut(6), x -> x.would(0, balls));
            Thrown.argument("21, out of range, ended: " + balls, () -> Grounds.full(), x -> x.would(0, balls));
        }
    }

    /** Promise 22: "Returns their runs", also without a ball, and whatever the umpire calls. */
    private static void endAnswersRuns() {
        RollerHorses x = covered(Grounds.played(120));
        Due.is(0, "22, their runs", () -> x.end(0));
        Due.is(1, "22, over", () -> x.inningsOf(0, 6));
        Due.is(-1, "22, not on the pitch any more", () -> x.pitchOf(0, 5));
        RollerHorses y = Grounds.played(37);
        y.bowl(0, 36);
        Due.is(84, "22, their runs", () -> y.end(0));
        Due.is(1, "22, others can be on the pitch", () -> y.innings(0, 0, 6));
        Due.is(11, "22, the last innings", () -> Grounds.full().end(11));
    }

    /** Promise 22: "if there are no such innings". */
    private static void noSuchInningsToEnd() {
        for (int innings : NO_INNINGS) {
            Thrown.index("22, no such innings: " + innings, () -> Grounds.full(), x -> x.end(innings));
        }
        Thrown.index("22, no such innings yet", () -> Grounds.played(6), x -> x.end(1));
    }

    /** Promise 22: "if it is refused for reason 9", over in each of the three ways. */
    private static void endIsRefused() {
        Thrown.refused("22, reason 9, all bowled", () -> bowledOut(6), 9, 0, x -> x.end(0));
        Thrown.refused("22, reason 9, 10 wickets", () -> bowledOut(120), 9, 0, x -> x.end(0));
        Thrown.refused("22, reason 9, ended", () -> Grounds.full(), 9, 10, x -> x.end(10));
        RollerHorses x = Grounds.full();
        x.end(11);
        Due.refused(x, 9, 11, "22, reason 9, innings 11", () -> x.end(11));
    }

    /** Promise 23: the number of each what, from the least to the most. */
    private static void inningsOfLeastAndMost() {
        int[][] due = {{0, 0, 6, 0, 0, 0, 0}, {0, 0, 6, 6, 16, 1, 1}, {0, 0, 120, 61, 135, 10, 1}};
        RollerHorses[] grounds = {Grounds.played(6), bowledOut(6), bowledOut(120)};
        for (int g = 0; g < grounds.length; g++) {
            RollerHorses x = grounds[g];
            for (int what = 0; what <= 6; what++) {
                int asked = what;
                Due.is(due[g][what], "23, ground " + g + ", what " + what, () -> x.inningsOf(0, asked));
            }
        }
        RollerHorses y = Grounds.stable();
        y.umpire(9);
        y.umpire(2);
        y.innings(1, 2, 119);
        int[] last = {1, 2, 119, 0, 0, 0, 0};
        for (int what = 0; what <= 6; what++) {
            int asked = what;
            Due.is(last[what], "23, what " + what, () -> y.inningsOf(0, asked));
        }
    }

    /** Promise 23: "if there are no such innings", ahead of "if what is not from 0 to 6". */
    private static void whatOfInnings() {
        for (int innings : NO_INNINGS) {
            Thrown.index("23, no such innings: " + innings, () -> Grounds.full(), x -> x.inningsOf(innings, 0));
            Thrown.index("23, no such innings, and what: " + innings, () -> Grounds.full(), x -> x.inningsOf(innings, 7));
            Thrown.index("23, no such innings, and what: " + innings, () -> Grounds.full(), x -> x.inningsOf(innings, -1));
        }
        Thrown.index("23, no such innings yet", () -> Grounds.played(6), x -> x.inningsOf(1, 0));
        for (int what : new int[] {Integer.MIN_VALUE, -1, 7, Integer.MAX_VALUE}) {
            Thrown.argument("23, not from 0 to 6: " + what, () -> Grounds.full(), x -> x.inningsOf(0, what));
            Thrown.argument("23, not from 0 to 6: " + what, () -> Grounds.full(), x -> x.inningsOf(11, what));
        }
    }

    /** Promise 24: "Returns how many", for the worths 0 to 6, from none to all. */
    private static void ballsOfEachWorth() {
        int[][] due = {{0, 0, 0, 0, 0, 0, 0}, {0, 1, 1, 1, 1, 1, 1}, {8, 9, 9, 8, 9, 10, 8}};
        RollerHorses[] grounds = {Grounds.played(6), bowledOut(6), bowledOut(120)};
        for (int g = 0; g < grounds.length; g++) {
            RollerHorses x = grounds[g];
            for (int w = 0; w <= 6; w++) {
                int worth = w;
                Due.is(due[g][w], "24, ground " + g + ", worth " + w, () -> x.balls(0, worth));
            }
        }
    }

    /** Promise 24: "if there are no such innings", ahead of "if there is no such worth". */
    private static void noSuchWorth() {
        for (int innings : NO_INNINGS) {
            Thrown.index("24, no such innings: " + innings, () -> Grounds.full(), x -> x.balls(innings, 0));
            Thrown.index("24, no such innings, and worth: " + innings, () -> Grounds.full(), x -> x.balls(innings, 7));
            Thrown.index("24, no such innings, and worth: " + innings, () -> Grounds.full(), x -> x.balls(innings, -1));
        }
        Thrown.index("24, no such innings yet", () -> Grounds.played(6), x -> x.balls(1, 6));
        for (int worth : new int[] {Integer.MIN_VALUE, -1, 7, Integer.MAX_VALUE}) {
            Thrown.argument("24, no such worth: " + worth, () -> Grounds.full(), x -> x.balls(0, worth));
            Thrown.argument("24, no such worth: " + worth, () -> Grounds.full(), x -> x.balls(11, worth));
        }
    }

    /** Promise 25: "Returns the runs of innings by a second way"; "if there are no such innings". */
    private static void runsByTheSecondWay() {
        Due.is(0, "25, none yet", () -> Grounds.played(6).runsAgain(0));
        Due.is(16, "25, 6 balls", () -> bowledOut(6).runsAgain(0));
        Due.is(135, "25, 61 balls", () -> bowledOut(120).runsAgain(0));
        Due.is(11, "25, the last innings", () -> Grounds.full().runsAgain(11));
        for (int innings : NO_INNINGS) {
            Thrown.index("25, no such innings: " + innings, () -> Grounds.full(), x -> x.runsAgain(innings));
        }
        Thrown.index("25, no such innings yet", () -> Grounds.played(6), x -> x.runsAgain(1));
    }

    /** Promise 26: "the most first, of several those with fewer balls bowled first, then the lowest ones". */
    private static void rankedInOrder() {
        RollerHorses x = Grounds.full();
        Due.is(11, "26, the most first", () -> x.ranked(0));
        for (int p = 1; p < 12; p++) {
            int place = p;
            Due.is(place - 1, "26, then the lowest", () -> x.ranked(place));
        }
        RollerHorses y = new RollerHorses();
        y.pitch();
        y.horse(2, true);
        y.umpire(1);
        y.pass(6);
        y.roll(0, 0, 1);
        y.pass(1);
        y.innings(0, 0, 6);
        Due.is(0, "26, one place", () -> y.ranked(0));
        Due.is(0, "20, a wicket as the first ball", () -> y.bowl(0, 1));
        y.end(0);
        y.innings(0, 0, 6);
        Due.is("1 0", "26, no runs, fewer balls first", () -> y.ranked(0) + " " + y.ranked(1));
        y.bowl(1, 1);
        Due.is("0 1", "26, no runs, as many balls, the lowest first", () -> y.ranked(0) + " " + y.ranked(1));
        y.bowl(1, 1);
        Due.is("1 0", "26, the most first, though with more balls", () -> y.ranked(0) + " " + y.ranked(1));
    }

    /** Promise 26: "if there is no such place". */
    private static void noSuchPlace() {
        for (int place : NO_INNINGS) {
            Thrown.noElement("26, no such place: " + place, () -> Grounds.full(), x -> x.ranked(place));
        }
        Thrown.noElement("26, no such place yet", () -> Grounds.played(6), x -> x.ranked(1));
        Thrown.noElement("26, no place", () -> Grounds.playable(), x -> x.ranked(0));
    }

    /** Promise 27: "Returns the hours that horses rolled in them", for 1 to 72 hours. */
    private static void hoursGoBy() {
        RollerHorses x = new RollerHorses();
        for (int p = 0; p < 4; p++) {
            x.pitch();
            x.horse(1, true);
        }
        Due.is(0, "27, none", () -> x.pass(1));
        for (int p = 0; p < 4; p++) {
            x.roll(p, p, 6);
        }
        Due.is(4, "27, 4 horses in 1 hour", () -> x.pass(1));
        Due.is(20, "27, 4 horses in 5 of 72 hours", () -> x.pass(72));
        Due.is(0, "27, none any more", () -> x.pass(72));
        Due.is(24, "32, hours that horses rolled so far", () -> x.account(13));
        Due.is(146, "27, the hour", () -> x.account(0));
        x.roll(0, 0, 1);
        Due.is(1, "27, 1 horse in 1 of 2 hours", () -> x.pass(2));
        x.roll(0, 0, 6);
        Due.is(6, "27, 1 horse in 6 hours", () -> x.pass(6));
    }

    /** Promise 27: "if the number is out of range". */
    private static void hoursOutOfRange() {
        for (int hours : new int[] {Integer.MIN_VALUE, -1, 0, 73, Integer.MAX_VALUE}) {
            Thrown.argument("27, out of range: " + hours, RollerHorses::new, x -> x.pass(hours));
            Thrown.argument("27, out of range: " + hours, () -> Grounds.full(), x -> x.pass(hours));
        }
    }
}
