/** Promises 19 to 27. */
public final class InningsTest {
    public static void main(String[] args) {
        innings();
        inningsAreRefused();
        bowlAndWould();
        bowlIsRefused();
        wicketsEndInnings();
        hardnessBehindTheLastBall();
        would();
        end();
        inningsOf();
        ballsByWorth();
        ranked();
        pass();
        Due.end();
    }

    /** A ground in the hour 6, light enough, with a pitch and an umpire. */
    private static RollerHorses ground() {
        RollerHorses x = new RollerHorses();
        x.pass(6);
        x.pitch();
        x.umpire(1);
        return x;
    }

    private static void innings() {
        RollerHorses x = ground();
        for (int number : new int[] {-1, 1}) {
            Due.index("19: innings on " + number, () -> x.innings(number, 0, 5));
            Due.index("19: innings with " + number, () -> x.innings(0, number, 121));
        }
        Due.argument("19: for 5 balls", () -> x.innings(0, 0, 5));
        Due.argument("19: for 121 balls", () -> x.innings(0, 0, 121));
        Due.is(0, "19: none so far", () -> x.account(8));
        Due.is(0, "19: for 6 balls", () -> x.innings(0, 0, 6));
        x.end(0);
        Due.is(1, "19: for 120 balls", () -> x.innings(0, 0, 120));
        Due.is(2, "19: innings", () -> x.account(8));
        Due.is(1, "19: innings that are over", () -> x.account(9));
        Due.is(6, "19: changes", () -> x.account(16));
    }

    private static void inningsAreRefused() {
        RollerHorses x = ground();
        x.pitch();
        x.horse(1, true);
        x.cover(1, true);
        Due.refused(x, 8, 6, "19: covered", () -> x.innings(1, 0, 6));
        x.cover(1, false);
        x.roll(0, 1, 1);
        Due.refused(x, 8, 5, "19: rolled", () -> x.innings(1, 0, 6));
        x.bell(6);
        Due.refused(x, 8, 4, "19: tea", () -> x.innings(0, 0, 6));
        x.bell(16);
        x.rain(6, 1);
        Due.refused(x, 8, 3, "19: rain", () -> x.innings(0, 0, 6));
        x.rain(6, 0);
        x.light(6, 2);
        Due.refused(x, 8, 2, "19: light", () -> x.innings(0, 0, 6));
        Due.argument("19: the balls go first", () -> x.innings(0, 0, 121));
        x.light(6, 3);
        x.innings(0, 0, 6);
        x.cover(0, true);
        Due.refused(x, 5, 0, "19: played on, ahead of the call", () -> x.innings(0, 0, 6));
        x.cover(0, false);
        for (int i = 1; i < 12; i++) {
            x.end(i - 1);
            int number = i;
            Due.is(number, "19: innings", () -> x.innings(0, 0, 6));
        }
        Due.refused(x, 1, 12, "19: thirteenth innings, ahead of played on", () -> x.innings(0, 0, 6));
        x.end(11);
        Due.refused(x, 1, 12, "19: thirteenth innings", () -> x.innings(0, 0, 6));
        Due.is(12, "19: innings", () -> x.account(8));
    }

    private static void bowlAndWould() {
        RollerHorses x = ground();
        x.innings(0, 0, 14);
        // Worths by (hardness + 3 * ball + ruts) % 7: 3 6 2 5 1 4, then with a hardness of 9: 6 2 5 1 4 0.
        Due.is(3, "21: would 1", () -> x.would(0, 1));
        Due.is(11, "21: would 4", () -> x.would(0, 4));
        Due.is(16, "21: would 6", () -> x.would(0, 6));
        Due.is(22, "21: would 7", () -> x.would(0, 7));
        Due.is(0, "21: nothing is bowled", () -> x.account(10));
        Due.is(10, "21: the hardness stays", () -> x.pitchOf(0, 1));
        Due.is(4, "21: no change", () -> x.account(16));
        Due.is(11, "20: bowl 5", () -> x.bowl(0, 4));
        Due.is(11, "20: runs so far", () -> x.account(11));
        Due.is(1, "20: wickets so far", () -> x.account(12));
        Due.is(10, "20: the hardness ahead of ball 5", () -> x.pitchOf(0, 1));
        Due.is(5, "20: bowl 2", () -> x.bowl(0, 2));
        Due.is(9, "20: the hardness behind ball 5", () -> x.pitchOf(0, 1));
        Due.is(13, "20: bowl 6", () -> x.bowl(0, 6));
        Due.is(8, "20: the hardness behind ball 11", () -> x.pitchOf(0, 1));
        Due.is(7, "20: changes", () -> x.account(16));
        // Balls 12 and 13 with a hardness of 8: 2, then 5, a wicket.
        Due.is(2, "20: bowl 2", () -> x.bowl(0, 2));
        Due.is(1, "20: they are over", () -> x.inningsOf(0, 6));
        Due.is(31, "20: runs", () -> x.inningsOf(0, 4));
        Due.is(3, "20: wickets", () -> x.inningsOf(0, 5));
        Due.is(14, "20: balls", () -> x.inningsOf(0, 3));
        Due.is(true, "33: isWell", () -> x.isWell());
        ballsOnRuts();
    }

    private static void ballsOnRuts() {
        RollerHorses x = ground();
        x.horse(1, false);
        x.roll(0, 0, 1);
        x.pass(1);
        Due.is(11, "20: hardness", () -> x.pitchOf(0, 1));
        Due.is(3, "20: ruts", () -> x.pitchOf(0, 2));
        x.innings(0, 0, 6);
        // 14 + 3 * ball, by 7: 0 3 6 2 5 1.
        Due.is(12, "20: bowl 6", () -> x.bowl(0, 6));
    }

    private static void bowlIsRefused() {
        RollerHorses x = ground();
        Due.index("20: bowl", () -> x.bowl(0, 0));
        x.innings(0, 0, 40);
        Due.index("20: bowl", () -> x.bowl(1, 37));
        Due.index("20: bowl", () -> x.bowl(-1, 37));
        Due.argument("20: 0 balls", () -> x.bowl(0, 0));
        Due.argument("20: 37 balls", () -> x.bowl(0, 37));
        x.bell(6);
        Due.refused(x, 8, 4, "20: tea", () -> x.bowl(0, 1));
        Due.is(3, "21: whatever the umpire calls", () -> x.would(0, 1));
        x.bell(16);
        Due.is(true, "20: 36 balls", () -> x.bowl(0, 36) > 0);
        Due.refused(x, 10, 4, "20: fewer balls left", () -> x.bowl(0, 5));
        x.cover(0, true);
        Due.refused(x, 10, 4, "20: fewer balls left, ahead of the call", () -> x.bowl(0, 5));
        Due.refused(x, 8, 6, "20: covered", () -> x.bowl(0, 4));
        x.cover(0, false);
        x.bowl(0, 4);
        x.cover(0, true);
        Due.refused(x, 9, 0, "20: over, ahead of all", () -> x.bowl(0, 5));
        Due.argument("20: the number goes first", () -> x.bowl(0, 37));
    }

    private static void wicketsEndInnings() {
        RollerHorses x = ground();
        x.horse(9, false);
        x.innings(0, 0, 120);
        x.bowl(0, 36);
        int wicketsFirst = x.inningsOf(0, 5);
        Due.is(true, "20: some wickets", () -> wicketsFirst > 0 && wicketsFirst < 10);
        int wouldBe = x.would(0, 36);
        Due.is(wouldBe, "20: as would said", () -> x.bowl(0, 36));
        while (x.inningsOf(0, 6) == 0) {
            x.bowl(0, 1);
        }
        Due.is(10, "20: ten wickets", () -> x.inningsOf(0, 5));
        Due.is(true, "20: balls are left", () -> x.inningsOf(0, 3) < 120);
        Due.is(10, "20: wickets by worth", () -> x.balls(0, 5));
        Due.refused(x, 9, 0, "20: they are over", () -> x.bowl(0, 1));
        Due.is(0, "21: none if they are over", () -> x.would(0, 1));
        Due.is(-1, "20: not on the pitch any more", () -> x.pitchOf(0, 5));
        Due.is(true, "20: they can be followed", () -> x.innings(0, 0, 6) == 1);
    }

    private static void hardnessBehindTheLastBall() {
        RollerHorses x = ground();
        x.innings(0, 0, 6);
        x.bowl(0, 6);
        Due.is(9, "20: less behind the last ball too", () -> x.pitchOf(0, 1));
        for (int i = 1; i < 12; i++) {
            x.innings(0, 0, 6);
            x.bowl(i, 6);
        }
        Due.is(0, "20: at least 0", () -> x.pitchOf(0, 1));
        Due.is(72, "20: balls", () -> x.pitchOf(0, 6));
        Due.is(72, "20: balls", () -> x.account(10));
        Due.is(12, "20: all are over", () -> x.account(9));
    }

    private static void would() {
        RollerHorses x = ground();
        Due.index("21: would", () -> x.would(0, 0));
        x.innings(0, 0, 6);
        Due.index("21: would", () -> x.would(1, 37));
        Due.index("21: would", () -> x.would(-1, 1));
        Due.argument("21: 0 balls", () -> x.would(0, 0));
        Due.argument("21: 37 balls", () -> x.would(0, 37));
        Due.is(16, "21: fewer left", () -> x.would(0, 36));
        x.pass(1);
        x.end(0);
        Due.is(0, "21: over", () -> x.would(0, 36));
        Due.argument("21: over, but 0 balls", () -> x.would(0, 0));
    }

    private static void end() {
        RollerHorses x = ground();
        Due.index("22: end", () -> x.end(0));
        x.innings(0, 0, 6);
        Due.index("22: end", () -> x.end(1));
        Due.index("22: end", () -> x.end(-1));
        x.bowl(0, 2);
        x.cover(0, true);
        Due.is(9, "22: end", () -> x.end(0));
        Due.is(1, "22: over", () -> x.inningsOf(0, 6));
        Due.is(2, "22: the balls stay", () -> x.inningsOf(0, 3));
        Due.refused(x, 9, 0, "22: end again", () -> x.end(0));
        x.cover(0, false);
        x.innings(0, 0, 6);
        x.bowl(1, 6);
        Due.refused(x, 9, 1, "22: all bowled", () -> x.end(1));
        Due.is(8, "22: changes", () -> x.account(16));
    }

    private static void inningsOf() {
        RollerHorses x = ground();
        x.pitch();
        x.umpire(2);
        x.umpire(3);
        Due.index("23: inningsOf", () -> x.inningsOf(0, 7));
        x.innings(1, 2, 33);
        x.bowl(0, 4);
        int[] due = {1, 2, 33, 4, 11, 1, 0};
        for (int what = 0; what < due.length; what++) {
            int asked = what;
            Due.is(due[what], "23: inningsOf " + what, () -> x.inningsOf(0, asked));
        }
        Due.argument("23: inningsOf", () -> x.inningsOf(0, 7));
        Due.argument("23: inningsOf", () -> x.inningsOf(0, -1));
        Due.index("23: inningsOf", () -> x.inningsOf(1, 0));
        Due.index("23: inningsOf", () -> x.inningsOf(-1, 0));
    }

    private static void ballsByWorth() {
        RollerHorses x = ground();
        Due.index("24: balls", () -> x.balls(0, 7));
        Due.index("25: runsAgain", () -> x.runsAgain(0));
        x.innings(0, 0, 12);
        Due.is(0, "25: none so far", () -> x.runsAgain(0));
        x.bowl(0, 12);
        int[] due = {1, 2, 2, 1, 2, 2, 2};
        for (int worth = 0; worth < due.length; worth++) {
            int asked = worth;
            Due.is(due[worth], "24: balls of worth " + worth, () -> x.balls(0, asked));
        }
        Due.argument("24: balls", () -> x.balls(0, 7));
        Due.argument("24: balls", () -> x.balls(0, -1));
        Due.index("24: balls", () -> x.balls(1, 0));
        Due.index("24: balls", () -> x.balls(-1, 0));
        Due.is(29, "25: runsAgain", () -> x.runsAgain(0));
        Due.is(29, "25: as by the first way", () -> x.inningsOf(0, 4));
        Due.index("25: runsAgain", () -> x.runsAgain(1));
        Due.index("25: runsAgain", () -> x.runsAgain(-1));
    }

    private static void ranked() {
        RollerHorses x = ground();
        Due.noElement("26: ranked", () -> x.ranked(0));
        x.pitch();
        x.pitch();
        x.pitch();
        x.innings(0, 0, 12); // 0 runs
        x.innings(1, 0, 12); // 3 runs of 1 ball
        x.innings(2, 0, 12); // 11 runs of 4 balls, the last one a wicket
        x.innings(3, 0, 12); // 11 runs of 3 balls
        x.bowl(1, 1);
        x.bowl(2, 4);
        x.bowl(3, 3);
        x.end(0);
        x.innings(0, 0, 12); // as innings 1
        x.bowl(4, 1);
        int[] due = {3, 2, 1, 4, 0};
        for (int place = 0; place < due.length; place++) {
            int asked = place;
            Due.is(due[place], "26: place " + place, () -> x.ranked(asked));
        }
        Due.noElement("26: ranked", () -> x.ranked(5));
        Due.noElement("26: ranked", () -> x.ranked(-1));
        Due.noElement("26: ranked", () -> x.ranked(Integer.MIN_VALUE));
        rankedFromTheFirst();
    }

    private static void rankedFromTheFirst() {
        RollerHorses x = ground();
        x.pitch();
        x.innings(0, 0, 12);
        x.innings(1, 0, 12);
        Due.is(0, "26: the lowest first", () -> x.ranked(0));
        Due.is(1, "26: then the other", () -> x.ranked(1));
        x.bowl(0, 2);
        x.bowl(1, 1);
        Due.is(0, "26: the most runs first", () -> x.ranked(0));
        Due.is(1, "26: then the other", () -> x.ranked(1));
    }

    private static void pass() {
        RollerHorses x = new RollerHorses();
        Due.argument("27: 0 hours", () -> x.pass(0));
        Due.argument("27: 73 hours", () -> x.pass(73));
        Due.argument("27: -1 hours", () -> x.pass(-1));
        Due.is(0, "27: 72 hours", () -> x.pass(72));
        Due.is(72, "27: the hour", () -> x.account(0));
        Due.is(0, "27: 1 hour", () -> x.pass(1));
        Due.is(73, "27: the hour", () -> x.account(0));
        x.pitch();
        x.pitch();
        x.horse(3, true);
        x.horse(4, true);
        x.roll(0, 0, 2);
        x.roll(1, 1, 5);
        Due.is(5, "27: hours of both", () -> x.pass(3));
        Due.is(2, "27: hours of one", () -> x.pass(72));
        Due.is(7, "13: hours that horses rolled so far", () -> x.account(13));
        Due.is(148, "27: the hour", () -> x.account(0));
    }
}
