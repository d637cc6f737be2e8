/** A ground with as much of everything as is kept, and each part of it undone and restored. */
public final class FullGroundTest {
    public static void main(String[] args) {
        fullGround();
        undoOfRuts();
        undoOfUmpires();
        undoOfTheRolledPitch();
        rowsAreTakenAnew();
        snapshotOfTheFullGround();
        Due.end();
    }

    /** In the hour 12: pitch 3 is rolled by horse 4, eleven innings are over and innings 11 are not. */
    private static RollerHorses full() {
        RollerHorses x = new RollerHorses();
        for (int p = 0; p < 4; p++) {
            x.pitch();
        }
        for (int h = 0; h < 5; h++) {
            x.horse(h + 1, h == 4);
        }
        for (int u = 1; u <= 3; u++) {
            x.umpire(u);
        }
        x.pass(12);
        for (int i = 0; i < 12; i++) {
            x.innings(i % 3, i % 3, 12);
            x.bowl(i, i + 1);
            if (i < 11) {
                endIfNotOver(x, i);
            }
        }
        x.roll(4, 3, 2);
        return x;
    }

    private static void endIfNotOver(RollerHorses x, int innings) {
        if (x.inningsOf(innings, 6) == 0) {
            x.end(innings);
        }
    }

    private static void fullGround() {
        RollerHorses x = full();
        Due.is(4, "32: pitches", () -> x.account(2));
        Due.is(5, "32: horses", () -> x.account(4));
        Due.is(1, "32: horses that roll", () -> x.account(5));
        Due.is(1, "32: horses in boots", () -> x.account(6));
        Due.is(3, "32: umpires", () -> x.account(7));
        Due.is(12, "32: innings", () -> x.account(8));
        Due.is(12, "32: all are over", () -> x.account(9));
        Due.is(78, "32: balls", () -> x.account(10));
        Due.is(22, "8: balls on pitch 0", () -> x.pitchOf(0, 6));
        Due.is(26, "8: balls on pitch 1", () -> x.pitchOf(1, 6));
        Due.is(30, "8: balls on pitch 2", () -> x.pitchOf(2, 6));
        Due.is(0, "8: balls on pitch 3", () -> x.pitchOf(3, 6));
        Due.is(4, "8: the horse on pitch 3", () -> x.pitchOf(3, 4));
        Due.is(-1, "8: no innings on pitch 3", () -> x.pitchOf(3, 5));
        Due.is(-1, "8: no innings on pitch 2", () -> x.pitchOf(2, 5));
        Due.is(3, "14: the strongest that does not roll", () -> x.bestHorse(0));
        Due.is(true, "33: isWell", () -> x.isWell());
        Due.refused(x, 1, 4, "6: pitch", () -> x.pitch());
        Due.refused(x, 1, 5, "10: horse", () -> x.horse(9, true));
        Due.refused(x, 1, 3, "15: umpire", () -> x.umpire(9));
        Due.refused(x, 1, 12, "19: innings", () -> x.innings(0, 0, 6));
        Due.noElement("26: ranked", () -> x.ranked(12));
        rankedIsInOrder(x);
        Due.is(1, "29: read", () -> Due.read(x, "u3"));
        Due.refused(x, 4, 4, "29: read", () -> Due.read(x, "c3"));
        Due.is(2, "27: hours that horses rolled", () -> x.pass(9));
        Due.is(20, "8: hardness of pitch 3", () -> x.pitchOf(3, 1));
        for (int p = 0; p < 4; p++) {
            x.cover(p, true);
        }
        Due.is(4, "32: pitches with covers", () -> x.account(3));
        Due.noElement("18: bestPitch", () -> x.bestPitch(2));
        lowestHorse();
    }

    private static void lowestHorse() {
        RollerHorses x = new RollerHorses();
        x.pitch();
        x.horse(4, false);
        Due.is(0, "14: the only horse", () -> x.bestHorse(0));
        x.horse(3, false);
        Due.is(0, "14: stronger than the others", () -> x.bestHorse(0));
    }

    private static void rankedIsInOrder(RollerHorses x) {
        boolean[] isSeen = new boolean[12];
        for (int place = 0; place < 12; place++) {
            int here = x.ranked(place);
            Due.is(false, "26: each innings once", () -> isSeen[here]);
            isSeen[here] = true;
            if (place > 0) {
                int ahead = x.ranked(place - 1);
                Due.is(true, "26: " + ahead + " ahead of " + here, () -> isAhead(x, ahead, here));
            }
        }
    }

    private static boolean isAhead(RollerHorses x, int one, int other) {
        int runs = x.inningsOf(one, 4) - x.inningsOf(other, 4);
        int balls = x.inningsOf(one, 3) - x.inningsOf(other, 3);
        return runs > 0 || runs == 0 && (balls < 0 || balls == 0 && one < other);
    }

    private static void undoOfRuts() {
        RollerHorses x = new RollerHorses();
        x.pitch();
        x.horse(4, false);
        x.roll(0, 0, 3);
        x.pass(1);
        Due.is(2, "27: ruts", () -> x.pitchOf(0, 2));
        Due.is(18, "27: wetness", () -> x.pitchOf(0, 0));
        x.pass(2);
        Due.is(6, "27: ruts", () -> x.pitchOf(0, 2));
        Due.is(3, "36: undo", () -> 0 * x.undo() + x.account(16) - 1);
        Due.is(2, "36: ruts", () -> x.pitchOf(0, 2));
        Due.is(18, "36: wetness", () -> x.pitchOf(0, 0));
        Due.is(2, "36: hours still", () -> x.horseOf(0, 3));
        Due.is(2, "36: tiredness", () -> x.horseOf(0, 2));
        x.undo();
        Due.is(0, "36: ruts", () -> x.pitchOf(0, 2));
        Due.is(0, "12: not in boots", () -> x.horseOf(0, 1));
    }

    private static void undoOfUmpires() {
        RollerHorses x = new RollerHorses();
        x.pass(6);
        x.pitch();
        x.umpire(1);
        x.umpire(9);
        x.undo();
        Due.is(1, "36: umpires", () -> x.account(7));
        Due.index("36: the umpire is gone", () -> x.call(1, 0));
        x.umpire(8);
        Due.is(0, "36: another strictness", () -> x.call(1, 0));
        x.undo();
        x.umpire(9);
        Due.is(1, "36: another strictness", () -> x.call(1, 0));
        x.innings(0, 0, 6);
        x.undo();
        Due.refused(x, 8, 1, "19: innings", () -> x.innings(0, 1, 6));
        x.light(6, 9);
        x.light(7, 9);
        x.pass(2);
        Due.is(12, "8: wetness", () -> x.pitchOf(0, 0));
        x.innings(0, 1, 6);
        x.bowl(0, 1);
        x.undo();
        Due.is(1, "36: the umpire of the innings", () -> x.inningsOf(0, 1));
        x.save();
        x.undo();
        x.innings(0, 0, 7);
        Due.is(8, "38: restore", () -> x.restore());
        Due.is(1, "38: the umpire of the innings", () -> x.inningsOf(0, 1));
        Due.is(6, "38: the balls of the innings", () -> x.inningsOf(0, 2));
    }

    private static void undoOfTheRolledPitch() {
        RollerHorses x = new RollerHorses();
        x.pitch();
        x.pitch();
        x.horse(2, true);
        x.roll(0, 1, 2);
        x.pass(3);
        x.roll(0, 0, 1);
        x.undo();
        Due.is(-1, "36: it does not roll", () -> x.horseOf(0, 4));
        x.undo();
        Due.is(1, "36: the pitch of the horse", () -> x.horseOf(0, 4));
        Due.is(-1, "36: no horse on pitch 0", () -> x.pitchOf(0, 4));
        Due.is(0, "36: the horse on pitch 1", () -> x.pitchOf(1, 4));
        x.pass(1);
        Due.is(12, "36: it rolls pitch 1", () -> x.pitchOf(1, 1));
        Due.is(10, "36: not pitch 0", () -> x.pitchOf(0, 1));
    }

    private static void rowsAreTakenAnew() {
        RollerHorses x = new RollerHorses();
        x.save();
        x.pitch();
        x.horse(9, false);
        x.roll(0, 0, 2);
        x.pass(6);
        x.umpire(1);
        x.innings(0, 0, 30);
        x.bowl(0, 20);
        x.cover(0, true);
        Due.is(0, "38: restore", () -> x.restore());
        Due.index("38: no pitch", () -> x.pitchOf(0, 0));
        Due.index("38: no horse", () -> x.horseOf(0, 0));
        Due.index("38: no umpire", () -> x.bestPitch(0));
        Due.index("38: no innings", () -> x.inningsOf(0, 0));
        x.pitch();
        x.horse(1, true);
        x.umpire(1);
        int[] pitch = {20, 10, 0, 0, -1, -1, 0};
        for (int what = 0; what < pitch.length; what++) {
            int asked = what;
            Due.is(pitch[what], "38: pitchOf " + what, () -> x.pitchOf(0, asked));
        }
        int[] horse = {1, 1, 0, 0, -1, 0};
        for (int what = 0; what < horse.length; what++) {
            int asked = what;
            Due.is(horse[what], "38: horseOf " + what, () -> x.horseOf(0, asked));
        }
        x.pass(6);
        x.innings(0, 0, 6);
        int[] innings = {0, 0, 6, 0, 0, 0, 0};
        for (int what = 0; what < innings.length; what++) {
            int asked = what;
            Due.is(innings[what], "38: inningsOf " + what, () -> x.inningsOf(0, asked));
        }
        for (int worth = 0; worth < 7; worth++) {
            int asked = worth;
            Due.is(0, "38: balls of worth " + worth, () -> x.balls(0, asked));
        }
    }

    private static void snapshotOfTheFullGround() {
        String before = State.of(full());
        RollerHorses x = full();
        Due.is(12, "37: save", () -> x.save());
        x.pass(5);
        x.cover(0, true);
        x.boots(2, true);
        x.rain(23, 8);
        x.light(1, 8);
        x.bell(0);
        Due.is(12, "38: restore", () -> x.restore());
        x.boots(0, true);
        x.undo();
        Due.is(before.replaceAll("undone: \\d+", "undone: 0"), "38: all is as it was", () -> State.of(x));
    }
}
