/** The boundary cases of promises 32 to 38: accounts, means, undo and the snapshot. */
public final class BoundaryAccountsTest {
    public static void main(String[] args) {
        accountsOfNothing();
        accountsOfAll();
        accountsOfInningsAddUp();
        accountsThatGrowAndFall();
        whatOfAnAccount();
        wellAtTheEdges();
        meanOfRuns();
        shareOfWickets();
        undoToNothing();
        undoTheLatestEight();
        undoComesRound();
        undoAfterRestore();
        changesAreKept();
        noChangeIsKept();
        numbersAreTakenAnew();
        rollingIsUndoneAndRestored();
        saveInPlaceOfAnEarlierOne();
        restoreStays();
        noSnapshot();
        Due.end();
    }

    private static void accounts(String what, RollerHorses x, int... due) {
        for (int a = 0; a < due.length; a++) {
            int asked = a;
            Due.is(due[a], what + ": account " + a, () -> x.account(asked));
        }
    }

    /** Promise 32: each account of nothing yet. */
    private static void accountsOfNothing() {
        accounts("32, nothing yet", new RollerHorses(), 0, 16, 0, 0, 0, 0, 0, 0, 0, 0, 0, 0, 0, 0, 0, 0, 0);
    }

    /** Promise 32: each account of as many as there is room for. */
    private static void accountsOfAll() {
        RollerHorses x = Grounds.full();
        accounts("32, all", x, 6, 16, 4, 1, 5, 1, 3, 3, 12, 11, 4, 11, 1, 0, 80, 0, 8);
        RollerHorses y = new RollerHorses();
        for (int p = 0; p < 4; p++) {
            y.pitch();
        }
        for (int h = 0; h < 5; h++) {
            y.horse(1, true);
        }
        for (int hour = 0; hour < 3; hour++) {
            y.rain(hour, 9);
        }
        y.pass(3);
        for (int p = 0; p < 4; p++) {
            y.roll(p, p, 1);
        }
        y.bell(23);
        accounts("32, the most", y, 3, 23, 4, 0, 5, 4, 5, 0, 0, 0, 0, 0, 0, 0, 396, 0, 8);
        y.pass(1);
        for (int p = 0; p < 4; p++) {
            y.cover(p, true);
        }
        for (int c = 0; c < 60; c++) {
            y.append(';');
        }
        accounts("32, the most", y, 4, 23, 4, 4, 5, 0, 5, 0, 0, 0, 0, 0, 0, 4, 396, 60, 8);
    }

    /** Promise 32: "the balls ... so far", "the runs so far", "the wickets so far", of all twelve innings. */
    private static void accountsOfInningsAddUp() {
        RollerHorses x = new RollerHorses();
        for (int p = 0; p < 3; p++) {
            x.pitch();
        }
        x.umpire(1);
        x.pass(6);
        for (int i = 0; i < 12; i++) {
            x.innings(i / 4, 0, 12);
            x.bowl(i, 4);
            x.end(i);
        }
        // Four balls on a hardness of 10 are worth 3, 6, 2 and a wicket.
        accounts("32, twelve innings", x, 6, 16, 3, 0, 0, 0, 0, 1, 12, 12, 48, 12 * 11, 12, 0, 60, 0, 8);
        Due.is("16 16 16", "8, balls on the pitches", () -> x.pitchOf(0, 6) + " " + x.pitchOf(1, 6) + " " + x.pitchOf(2, 6));
        Due.is(11.0, "34, the mean", () -> x.meanRuns());
        Due.is(12f / 48f, "35, the share", () -> x.wickets());
        Due.is(true, "33, four innings with balls on each pitch", () -> x.isWell());
    }

    /** Promise 32: the accounts of what is so now fall again; those "so far" do not. */
    private static void accountsThatGrowAndFall() {
        RollerHorses x = Grounds.full();
        x.end(11);
        x.pass(6);
        x.cover(3, false);
        x.boots(4, false);
        accounts("32, less again", x, 12, 16, 4, 0, 5, 0, 2, 3, 12, 12, 4, 11, 1, 6);
        Due.is(8, "32, changes that can be undone", () -> x.account(16));
        x.undo();
        Due.is(7, "32, one less", () -> x.account(16));
        Due.is(3, "32, in boots again", () -> x.account(6));
    }

    /** Promise 32: "if what is not from 0 to 16". */
    private static void whatOfAnAccount() {
        for (int what : new int[] {Integer.MIN_VALUE, -1, 17, Integer.MAX_VALUE}) {
            Thrown.argument("32, not from 0 to 16: " + what, RollerHorses::new, x -> x.account(what));
            Thrown.argument("32, not from 0 to 16: " + what, () -> Grounds.full(), x -> x.account(what));
        }
    }

    /** Promise 33: all is well with nothing, with all, and behind balls, rolling, undo and restore. */
    private static void wellAtTheEdges() {
        Due.is(true, "33, nothing", () -> new RollerHorses().isWell());
        Due.is(true, "33, all", () -> Grounds.full().isWell());
        RollerHorses x = Grounds.played(120);
        x.save();
        Due.is(true, "33, no balls", () -> x.isWell());
        x.bowl(0, 36);
        x.bowl(0, 36);
        Due.is(true, "33, ten wickets", () -> x.isWell());
        x.roll(0, 0, 1);
        Due.is(true, "33, rolled, as the innings are over", () -> x.isWell());
        x.undo();
        x.undo();
        Due.is(true, "33, undone", () -> x.isWell());
        x.restore();
        Due.is(true, "33, restored", () -> x.isWell());
    }

    /** Promise 34: "the mean of the runs of all innings", over or not; "ArithmeticException if there are none". */
    private static void meanOfRuns() {
        Thrown.arithmetic("34, none", RollerHorses::new, x -> x.meanRuns());
        Thrown.arithmetic("34, none", () -> Grounds.playable(), x -> x.meanRuns());
        Due.is(0.0, "34, one, without runs", () -> Grounds.played(6).meanRuns());
        RollerHorses x = Grounds.played(120);
        x.bowl(0, 36);
        Due.is(84.0, "34, one", () -> x.meanRuns());
        Due.is(11.0 / 12.0, "34, twelve", () -> Grounds.full().meanRuns());
        x.undo();
        x.undo();
        Due.arithmetic("34, none again", () -> x.meanRuns());
    }

    /** Promise 35: from none to all of the balls; "ArithmeticException if no balls were bowled". */
    private static void shareOfWickets() {
        Thrown.arithmetic("35, no innings", RollerHorses::new, x -> x.wickets());
        Thrown.arithmetic("35, no balls", () -> Grounds.played(6), x -> x.wickets());
        RollerHorses x = Grounds.played(120);
        x.bowl(0, 1);
        Due.is(0f, "35, none of 1", () -> x.wickets());
        x.bowl(0, 3);
        Due.is(1f / 4f, "35, 1 of 4", () -> x.wickets());
        x.bowl(0, 36);
        x.bowl(0, 36);
        Due.is(10f / 61f, "35, 10 of 61", () -> x.wickets());
        RollerHorses y = new RollerHorses();
        y.pitch();
        y.horse(2, true);
        y.umpire(1);
        y.pass(6);
        y.roll(0, 0, 1);
        y.pass(1);
        y.innings(0, 0, 6);
        y.bowl(0, 1);
        Due.is(1f, "35, 1 of 1", () -> y.wickets());
        Due.is(0.0, "34, no runs", () -> y.meanRuns());
        y.undo();
        Due.arithmetic("35, no balls again", () -> y.wickets());
    }

    /** Promise 36: "if no change can be undone": none yet, all undone, or all forgotten. */
    private static void undoToNothing() {
        Thrown.state("36, none yet", RollerHorses::new, x -> x.undo());
        RollerHorses x = new RollerHorses();
        x.pass(1);
        Due.is(0, "36, none left", () -> x.undo());
        Due.state("36, all undone", () -> x.undo());
        Due.is(0, "36, the hour", () -> x.account(0));
        Thrown.state("36, all undone", () -> {
            RollerHorses y = Grounds.full();
            for (int u = 0; u < 8; u++) {
                y.undo();
            }
            return y;
        }, y -> y.undo());
        Thrown.state("36, all forgotten", () -> {
            RollerHorses y = Grounds.full();
            y.restore();
            return y;
        }, y -> y.undo());
    }

    /** Terms, Undo: "The latest 8 can be undone", of 7, 8, 9, 16 and 17 of them. */
    private static void undoTheLatestEight() {
        for (int changes : new int[] {1, 7, 8, 9, 15, 16, 17, 25}) {
            RollerHorses x = new RollerHorses();
            for (int c = 1; c <= changes; c++) {
                x.pass(c);
                int due = Math.min(8, c);
                Due.is(due, "36, changes that can be undone", () -> x.account(16));
            }
            int hour = changes * (changes + 1) / 2;
            int can = Math.min(8, changes);
            for (int u = 1; u <= can; u++) {
                int left = can - u;
                Due.is(left, "36, the number that can still be undone", () -> x.undo());
                hour -= changes - u + 1;
                int due = hour;
                Due.is(due, "36, the hour, " + changes + " changes, undo " + u, () -> x.account(0));
            }
            Due.state("36, no more", () -> x.undo());
            int due = hour;
            Due.is(due, "36, the hour stays", () -> x.account(0));
        }
    }

    /** Promise 36: changes and undo by turns, so that the rows for them come round many times. */
    private static void undoComesRound() {
        RollerHorses x = new RollerHorses();
        for (int turn = 0; turn < 30; turn++) {
            int hour = turn;
            x.pass(1);
            x.pass(50);
            x.pass(20);
            int left = Math.min(7, turn + 2);
            Due.is(left, "36, the number that can still be undone", () -> x.undo());
            x.undo();
            Due.is(hour + 1, "36, the hour", () -> x.account(0));
        }
    }

    /** Terms, Undo: "restore forgets all", and what is changed behind it can be undone. */
    private static void undoAfterRestore() {
        RollerHorses x = Grounds.full();
        Due.is(8, "36, eight", () -> x.account(16));
        Due.is(6, "38, the hour", () -> x.restore());
        Due.is(0, "36, forgotten", () -> x.account(16));
        x.pass(1);
        x.pass(1);
        Due.is(1, "36, one left", () -> x.undo());
        Due.is(7, "36, the hour", () -> x.account(0));
        Due.is(0, "36, none left", () -> x.undo());
        Due.is(6, "36, as it was restored", () -> x.account(0));
        Due.is(0, "38, without the cover", () -> x.account(3));
        Due.state("36, restore is not undone", () -> x.undo());
    }

    /** Terms, Undo: each of the changes, "also if nothing is different then". */
    private static void changesAreKept() {
        change("rain", x -> x.rain(6, 9));
        change("rain, nothing is different", x -> x.rain(0, 0));
        change("light", x -> x.light(6, 9));
        change("light, nothing is different", x -> x.light(6, 7));
        change("bell", x -> x.bell(0));
        change("bell, nothing is different", x -> x.bell(16));
        change("pitch", x -> x.pitch());
        change("cover", x -> x.cover(0, true));
        change("cover, nothing is different", x -> x.cover(0, false));
        change("horse", x -> x.horse(9, false));
        change("boots", x -> x.boots(0, false));
        change("boots, nothing is different", x -> x.boots(0, true));
        change("roll", x -> x.roll(0, 1, 6));
        change("umpire", x -> x.umpire(9));
        change("innings", x -> x.innings(1, 0, 6));
        change("bowl", x -> x.bowl(0, 36));
        change("bowl, nothing but a ball", x -> x.bowl(0, 1));
        change("end", x -> x.end(0));
        change("pass", x -> x.pass(72));
        change("pass, nothing but an hour", x -> x.pass(1));
        change("read", x -> Due.read(x, "b0*6;r0:1+6;h3;c0;e0"));
        change("read, nothing is different", x -> Due.read(x, "u0"));
    }

    private static RollerHorses changeable(int changes) {
        RollerHorses x = Grounds.playable();
        x.pitch();
        x.innings(0, 0, 120);
        x.save();
        x.restore();
        for (int c = 0; c < changes; c++) {
            x.bell(16);
        }
        return x;
    }

    private static void change(String what, Thrown.Step change) {
        for (int changes : new int[] {0, 7, 8}) {
            String before = State.of(changeable(changes)).replaceAll("undone: .", "");
            RollerHorses x = changeable(changes);
            change.on(x);
            int due = Math.min(8, changes + 1);
            Due.is(due, "36, a change: " + what, () -> x.account(16));
            Due.is(due - 1, "36, undone: " + what, () -> x.undo());
            Due.is(before, "36, undone: " + what, () -> State.of(x).replaceAll("undone: .", ""));
            RollerHorses y = changeable(changes);
            change.on(y);
            Due.is(6, "38, restored: " + what, () -> y.restore());
            Due.is(0, "38, forgotten: " + what, () -> y.account(16));
            Due.is(before, "38, restored: " + what, () -> State.of(y).replaceAll("undone: .", ""));
        }
    }

    /** Terms, Undo: what is not named there is no change, and leaves all as it is. */
    private static void noChangeIsKept() {
        noChange("weather", x -> x.weather(0, true));
        noChange("pitchOf", x -> x.pitchOf(0, 0));
        noChange("sign", x -> x.sign(0));
        noChange("horseOf", x -> x.horseOf(0, 0));
        noChange("bestHorse", x -> x.bestHorse(1));
        noChange("call", x -> x.call(0, 0));
        noChange("fitIn", x -> x.fitIn(0, 0));
        noChange("bestPitch", x -> x.bestPitch(0));
        noChange("would", x -> x.would(0, 36));
        noChange("inningsOf", x -> x.inningsOf(0, 0));
        noChange("balls", x -> x.balls(0, 0));
        noChange("runsAgain", x -> x.runsAgain(0));
        noChange("ranked", x -> x.ranked(0));
        noChange("append", x -> x.append('h'));
        noChange("errorPosition", x -> x.errorPosition());
        noChange("account", x -> x.account(0));
        noChange("isWell", x -> x.isWell());
        noChange("meanRuns", x -> x.meanRuns());
        noChange("save", x -> x.save());
    }

    private static void noChange(String what, Thrown.Step call) {
        for (int changes : new int[] {0, 7, 8}) {
            String before = State.of(changeable(changes));
            RollerHorses x = changeable(changes);
            call.on(x);
            Due.is(before, "36, no change: " + what, () -> State.of(x));
            RollerHorses y = changeable(changes);
            call.on(y);
            y.cover(1, true);
            y.undo();
            Due.is(before.replaceAll("undone: .", ""), "36, no change: " + what,
                () -> State.of(y).replaceAll("undone: .", ""));
        }
    }

    /** Promises 36 and 38: a horse, an umpire and innings that are undone and made anew, then restored. */
    private static void numbersAreTakenAnew() {
        RollerHorses x = Grounds.makeWet(Grounds.playable(), 16);
        x.horse(9, false);
        x.umpire(9);
        x.innings(0, 0, 120);
        x.save();
        x.undo();
        x.undo();
        x.undo();
        x.umpire(8);
        Due.is(0, "15, the new umpire", () -> x.call(1, 0));
        x.horse(2, true);
        Due.is("2 1", "10, the new horse", () -> x.horseOf(1, 0) + " " + x.horseOf(1, 1));
        x.innings(0, 1, 6);
        Due.is("1 6", "19, the new innings", () -> x.inningsOf(0, 1) + " " + x.inningsOf(0, 2));
        Due.is(1, "29, the new innings in a text", () -> Due.read(x, "b0*6"));
        x.restore();
        Due.is("9 0", "38, the horse", () -> x.horseOf(1, 0) + " " + x.horseOf(1, 1));
        Due.is("0 120 0 0", "38, the innings", () -> x.inningsOf(0, 1) + " " + x.inningsOf(0, 2) + " " + x.inningsOf(0, 3)
            + " " + x.inningsOf(0, 6));
        Due.is(1, "38, the umpire", () -> x.call(1, 0));
    }

    /** Promises 36 and 38: ruts, hardness and hours of rolling, in a text, ahead of it and behind it. */
    private static void rollingIsUndoneAndRestored() {
        RollerHorses x = new RollerHorses();
        x.pitch();
        x.horse(5, false);
        x.roll(0, 0, 3);
        x.pass(1);
        x.save();
        String first = "18 15 2 2 2 1";
        Due.is(first, "27, an hour", () -> rolled(x));
        Due.is(1, "29, an hour in a text", () -> Due.read(x, "h1"));
        Due.is("16 20 4 4 1 2", "29, two hours", () -> rolled(x));
        x.pass(1);
        Due.is("14 25 6 6 0 3", "27, three hours", () -> rolled(x));
        x.undo();
        Due.is("16 20 4 4 1 2", "36, two hours", () -> rolled(x));
        x.undo();
        Due.is(first, "36, an hour", () -> rolled(x));
        x.pass(2);
        x.restore();
        Due.is(first, "38, an hour", () -> rolled(x));
        x.pass(2);
        Due.is("14 25 6 6 0 3", "38, it rolls on", () -> rolled(x));
    }

    private static String rolled(RollerHorses x) {
        return x.pitchOf(0, 0) + " " + x.pitchOf(0, 1) + " " + x.pitchOf(0, 2) + " " + x.horseOf(0, 2) + " "
            + x.horseOf(0, 3) + " " + x.horseOf(0, 5);
    }

    /** Promise 37: "in place of an earlier one"; "Returns the hour". */
    private static void saveInPlaceOfAnEarlierOne() {
        RollerHorses x = new RollerHorses();
        Due.is(0, "37, the hour", () -> x.save());
        x.pass(72);
        Due.is(72, "37, the hour, not of the day", () -> x.save());
        x.undo();
        Due.is(0, "36, the hour", () -> x.account(0));
        Due.is(72, "38, the later one, of what was undone", () -> x.restore());
        Due.is(72, "37, saved as it was restored", () -> x.save());
        x.pass(1);
        Due.is(72, "38, the same again", () -> x.restore());
        accounts("37, a snapshot of nothing", nothingRestored(), 0, 16, 0, 0, 0, 0, 0, 0, 0, 0, 0, 0, 0, 0, 0, 0, 0);
    }

    private static RollerHorses nothingRestored() {
        RollerHorses x = new RollerHorses();
        x.save();
        x.bell(0);
        x.rain(0, 9);
        x.pitch();
        x.pitch();
        x.horse(9, true);
        x.umpire(1);
        x.pass(30);
        x.innings(0, 0, 6);
        x.bowl(0, 6);
        x.cover(0, true);
        x.roll(0, 1, 6);
        Due.is(0, "38, the hour", () -> x.restore());
        Due.is(0, "38, no rain", () -> x.weather(0, false));
        return x;
    }

    /** Promise 38: "as it is in the snapshot, which stays", also behind changes, undo and many restores. */
    private static void restoreStays() {
        String due = State.of(Grounds.full()).replaceAll("undone: .", "");
        RollerHorses x = Grounds.full();
        x.save();
        for (int turn = 0; turn < 5; turn++) {
            x.pass(72);
            x.end(11);
            x.cover(0, true);
            x.undo();
            Due.is(6, "38, the hour", () -> x.restore());
            Due.is(6, "38, the hour again", () -> x.restore());
            Due.is(0, "38, not over", () -> x.inningsOf(11, 6));
        }
        Due.is(due, "38, all is as it was", () -> State.of(x).replaceAll("undone: .", ""));
    }

    /** Promise 38: "if there is no snapshot", whatever was changed or undone. */
    private static void noSnapshot() {
        Thrown.state("38, no snapshot", RollerHorses::new, x -> x.restore());
        Thrown.state("38, no snapshot", () -> Grounds.played(6), x -> x.restore());
        RollerHorses x = Grounds.played(6);
        Due.state("38, no snapshot", () -> x.restore());
        Due.is(5, "38, nothing is forgotten", () -> x.account(16));
        x.undo();
        Due.state("38, no snapshot", () -> x.restore());
        x.save();
        Due.is(6, "38, there is one", () -> x.restore());
    }
}
