/** Promises 28 to 38. */
public final class TextsTest {
    public static void main(String[] args) {
        append();
        readCarriesOut();
        readIsRefused();
        readThrowsArgument();
        readIsOneChange();
        errorPosition();
        refusal();
        account();
        means();
        undo();
        undoOfAll();
        saveAndRestore();
        Due.end();
    }

    private static RollerHorses ground() {
        RollerHorses x = new RollerHorses();
        x.pass(6);
        x.pitch();
        x.pitch();
        x.umpire(1);
        x.horse(4, true);
        x.horse(4, true);
        return x;
    }

    private static void append() {
        RollerHorses x = new RollerHorses();
        for (int i = 1; i <= 60; i++) {
            int length = i;
            Due.is(length, "28: append", () -> x.append((char) (length * 1000)));
        }
        Due.state("28: 60 characters", () -> x.append('c'));
        Due.is(60, "28: characters", () -> x.account(15));
        Due.is(0, "28: no change", () -> x.account(16));
        Due.argument("29: read", () -> x.read());
        Due.is(0, "29: empty afterwards", () -> x.account(15));
        Due.is(1, "28: append", () -> x.append('h'));
        x.append('1');
        Due.is(1, "29: read", () -> x.read());
        Due.is(0, "29: empty afterwards", () -> x.account(15));
    }

    private static void readCarriesOut() {
        RollerHorses x = ground();
        x.innings(1, 0, 30);
        Due.is(6, "29: read", () -> Due.read(x, "r1:0+3;h02;b0*4;e00;c1;h1"));
        Due.is(-1, "30: no error", () -> x.errorPosition());
        Due.is(9, "29: the hour", () -> x.account(0));
        Due.is(22, "29: hardness", () -> x.pitchOf(0, 1));
        Due.is(3, "29: hours of the horse", () -> x.horseOf(1, 5));
        Due.is(11, "29: runs", () -> x.inningsOf(0, 4));
        Due.is(1, "29: ended", () -> x.inningsOf(0, 6));
        Due.is(1, "29: covered", () -> x.pitchOf(1, 3));
        Due.is(1, "29: read", () -> Due.read(x, "u1"));
        Due.is(0, "29: not covered", () -> x.pitchOf(1, 3));
        Due.is(20, "29: 20 orders", () -> Due.read(x, "c0;c0;c0;c0;c0;c0;c0;c0;c0;c0;c0;c0;c0;c0;c0;c0;c0;c0;c0;u0"));
        Due.is(0, "29: not covered", () -> x.pitchOf(0, 3));
        Due.is(1, "29: read", () -> Due.read(x, "h72"));
        Due.is(81, "29: the hour", () -> x.account(0));
    }

    private static void readIsRefused() {
        RollerHorses x = ground();
        x.innings(1, 0, 30);
        Due.refused(x, 4, 0, "29: read", () -> Due.read(x, "r0:0+2;h1;r1:0+1;h0"));
        Due.is(-1, "30: no error", () -> x.errorPosition());
        Due.is(0, "29: empty afterwards", () -> x.account(15));
        Due.is(6, "29: nothing is carried out", () -> x.account(0));
        Due.is(0, "29: no horse rolls", () -> x.account(5));
        Due.is(7, "29: no change", () -> x.account(16));
        Due.refused(x, 2, 2, "29: read", () -> Due.read(x, "r0:0+2;r0:1+1"));
        Due.refused(x, 5, 0, "29: read", () -> Due.read(x, "c0;r0:1+1"));
        Due.refused(x, 6, 0, "29: read", () -> Due.read(x, "c0;r0:0+1"));
        Due.refused(x, 3, 16, "29: read", () -> Due.read(x, "r0:0+6;h6;r0:0+2;h2;r0:0+1"));
        Due.refused(x, 10, 27, "29: read", () -> Due.read(x, "b0*3;b0*28"));
        Due.refused(x, 8, 6, "29: read", () -> Due.read(x, "c1;b0*3"));
        Due.refused(x, 9, 0, "29: read", () -> Due.read(x, "e0;b0*3"));
        Due.refused(x, 9, 0, "29: read", () -> Due.read(x, "e0;e0"));
        Due.refused(x, 4, 1, "29: read", () -> Due.read(x, "r1:0+1;c0"));
        Due.is(1, "29: what is refused for a cover is not for off", () -> Due.read(x, "u0"));
        Due.is(6, "29: nothing else is carried out", () -> x.account(0));
        Due.is(0, "29: nothing is bowled", () -> x.account(10));
    }

    private static void readThrowsArgument() {
        RollerHorses x = ground();
        x.innings(1, 0, 30);
        String[] texts = {"r2:0+1", "r0:2+1", "r9:9+9", "r0:0+0", "r0:0+7", "b1*1", "b12*1", "b0*0", "b0*37", "b0*99",
            "c2", "u4", "e1", "e99", "h0", "h00", "h73", "h99", "h1;c9", "h1;h0;e9"};
        for (String text : texts) {
            Due.argument("29: read " + text, () -> Due.read(x, text));
            Due.is(-1, "30: no error in " + text, () -> x.errorPosition());
            Due.is(0, "29: empty afterwards", () -> x.account(15));
        }
        Due.is(6, "29: nothing is carried out", () -> x.account(0));
        Due.is(7, "29: no change", () -> x.account(16));
        Due.noElement("31: nothing was refused", () -> x.refusal(false));
        Due.argument("29: the first decides", () -> Due.read(x, "c9;r0:1+1"));
        Due.argument("29: an error goes first", () -> Due.read(x, "r0:1+1;x"));
        Due.noElement("31: nothing was refused", () -> x.refusal(false));
        Due.refused(x, 5, 0, "29: the first decides", () -> Due.read(x, "r0:1+1;c9"));
    }

    private static void readIsOneChange() {
        RollerHorses x = ground();
        Due.is(6, "36: changes", () -> x.account(16));
        Due.read(x, "c0;h1;c1");
        Due.is(7, "29: one more", () -> x.account(16));
        Due.is(6, "36: undo", () -> x.undo());
        Due.is(0, "36: covers", () -> x.account(3));
        Due.is(6, "36: the hour", () -> x.account(0));
    }

    private static void errorPosition() {
        RollerHorses x = ground();
        String[] texts = {"", "r", "r0", "r0:", "r0:0", "r0:0+", "b", "b0", "b00", "b0*", "b00*", "c", "u", "e", "h",
            "h1;", "h1;c0;", "c0;r0:0+1;b"};
        for (String text : texts) {
            Due.argument("29: read " + text, () -> Due.read(x, text));
            Due.is(text.length(), "30: " + text + " ends too early", () -> x.errorPosition());
        }
        Object[][] wrongs = {{"x", 0}, {";", 0}, {" h1", 0}, {"H1", 0}, {"0", 0}, {"rr", 1}, {"r00:0+1", 2}, {"r0:00+1", 4},
            {"r0:0+11", 6}, {"r0;0+1", 2}, {"r0:0:1", 4}, {"b000*1", 3}, {"b0+1", 2}, {"b0*111", 5}, {"b0*;", 3},
            {"c00", 2}, {"c;", 1}, {"u0 ", 2}, {"u-1", 1}, {"e000", 3}, {"e0*1", 2}, {"h100", 3}, {"h1 ", 2},
            {"h1;;h1", 3}, {"h1,h1", 2}, {"h1;h1;q", 6}, {"h" + (char) 0x661, 1}, {"h/", 1}, {"h:", 1}, {"h1/", 2},
            {"h1:", 2}, {"h\uffff", 1}, {"\uffff", 0}, {"h1\u0000", 2}, {"c0;c0;c0;r0:0*1;zzz", 13}};
        for (Object[] wrong : wrongs) {
            String text = (String) wrong[0];
            Due.argument("29: read " + text, () -> Due.read(x, text));
            Due.is(wrong[1], "30: " + text, () -> x.errorPosition());
            Due.is(0, "29: empty afterwards", () -> x.account(15));
        }
        String full = "c0;c0;c0;c0;c0;c0;c0;c0;c0;c0;c0;c0;c0;c0;c0;c0;c0;c0;c0;c0;";
        Due.argument("29: read 60 characters", () -> Due.read(x, full));
        Due.is(60, "30: ends too early", () -> x.errorPosition());
        Due.is(6, "30: nothing is carried out", () -> x.account(0));
        Due.is(1, "29: read", () -> Due.read(x, "h1"));
        Due.is(-1, "30: no error any more", () -> x.errorPosition());
        Due.argument("29: read", () -> Due.read(x, "h"));
        x.undo();
        Due.is(1, "30: it is not undone", () -> x.errorPosition());
    }

    private static void refusal() {
        RollerHorses x = ground();
        x.save();
        Due.noElement("31: refusal", () -> x.refusal(false));
        Due.noElement("31: refusal", () -> x.refusal(true));
        x.innings(0, 0, 6);
        Due.refused(x, 5, 0, "31: innings", () -> x.innings(0, 0, 6));
        Due.argument("31: another exception", () -> x.innings(0, 0, 5));
        Due.is(5, "31: the latest refusal stays", () -> x.refusal(false));
        x.undo();
        Due.is(5, "31: it is not undone", () -> x.refusal(false));
        x.restore();
        Due.is(0, "31: it is not restored", () -> x.refusal(true));
    }

    private static void account() {
        RollerHorses x = ground();
        Due.argument("32: account", () -> x.account(-1));
        Due.argument("32: account", () -> x.account(17));
        x.pass(24);
        x.bell(9);
        x.boots(1, false);
        x.pitch();
        x.innings(0, 0, 12);
        x.bowl(0, 6);
        x.end(0);
        x.innings(0, 0, 12);
        x.bowl(1, 4);
        x.roll(1, 1, 3);
        x.pass(2);
        x.cover(2, true);
        x.append('h');
        int[] due = {32, 9, 3, 1, 2, 1, 1, 1, 2, 1, 10, 16 + 7, 2, 2, 0, 1, 8};
        due[14] = x.pitchOf(0, 0) + x.pitchOf(1, 0) + x.pitchOf(2, 0);
        for (int what = 0; what < due.length; what++) {
            int asked = what;
            Due.is(due[what], "32: account " + what, () -> x.account(asked));
        }
        Due.is(true, "33: isWell", () -> x.isWell());
    }

    private static void means() {
        RollerHorses x = ground();
        Due.arithmetic("34: meanRuns", () -> x.meanRuns());
        Due.arithmetic("35: wickets", () -> x.wickets());
        x.innings(0, 0, 12);
        Due.is(0.0, "34: meanRuns", () -> x.meanRuns());
        Due.arithmetic("35: wickets", () -> x.wickets());
        x.bowl(0, 6);
        x.innings(1, 0, 12);
        x.bowl(1, 1);
        Due.is(9.5, "34: meanRuns", () -> x.meanRuns());
        Due.is(1f / 7f, "35: wickets", () -> x.wickets());
        x.end(1);
        x.innings(1, 0, 12);
        Due.is(19.0 / 3.0, "34: meanRuns", () -> x.meanRuns());
    }

    private static void undo() {
        RollerHorses x = new RollerHorses();
        Due.state("36: undo", () -> x.undo());
        for (int hour = 1; hour <= 10; hour++) {
            x.pass(1);
        }
        Due.is(8, "36: the latest 8", () -> x.account(16));
        for (int left = 7; left >= 0; left--) {
            int due = left;
            Due.is(due, "36: undo", () -> x.undo());
            Due.is(due + 2, "36: the hour", () -> x.account(0));
        }
        Due.state("36: undo", () -> x.undo());
        Due.is(2, "36: the hour", () -> x.account(0));
        Due.argument("36: what fails is no change", () -> x.pass(0));
        Due.state("36: undo", () -> x.undo());
        x.bell(16);
        Due.is(1, "36: also if nothing is different", () -> x.account(16));
        x.append('c');
        Due.is(0, "36: undo", () -> x.undo());
        Due.is(1, "36: the input stays", () -> x.account(15));
    }

    private static void undoOfAll() {
        RollerHorses x = ground();
        x.rain(7, 3);
        x.light(7, 3);
        x.bell(7);
        x.undo();
        x.undo();
        x.undo();
        Due.is(0, "36: rain", () -> x.weather(7, false));
        Due.is(7, "36: light", () -> x.weather(7, true));
        Due.is(16, "36: bell", () -> x.account(1));
        x.innings(1, 0, 6);
        x.bowl(0, 4);
        x.undo();
        Due.is(0, "36: balls", () -> x.inningsOf(0, 3));
        Due.is(0, "36: runs", () -> x.runsAgain(0));
        Due.is(0, "36: balls on the pitch", () -> x.pitchOf(1, 6));
        x.end(0);
        x.undo();
        Due.is(0, "36: end", () -> x.inningsOf(0, 6));
        x.undo();
        Due.is(0, "36: innings", () -> x.account(8));
        x.innings(0, 0, 7);
        Due.is(7, "36: innings anew", () -> x.inningsOf(0, 2));
        Due.is(0, "36: innings anew", () -> x.inningsOf(0, 4));
        x.roll(0, 1, 2);
        x.pass(1);
        x.undo();
        Due.is(2, "36: hours of the horse", () -> x.horseOf(0, 3));
        Due.is(10, "36: hardness", () -> x.pitchOf(1, 1));
        Due.is(0, "36: hours rolled", () -> x.account(13));
        x.undo();
        Due.is(-1, "36: roll", () -> x.horseOf(0, 4));
        x.boots(1, false);
        x.cover(0, true);
        x.undo();
        Due.is(0, "36: cover", () -> x.account(3));
        x.undo();
        Due.is(2, "36: boots", () -> x.account(6));
    }

    private static void saveAndRestore() {
        RollerHorses x = ground();
        Due.state("38: restore", () -> x.restore());
        Due.is(6, "37: save", () -> x.save());
        Due.is(6, "37: no change", () -> x.account(16));
        x.pass(30);
        x.cover(0, true);
        x.bell(3);
        x.append('c');
        Due.is(6, "38: restore", () -> x.restore());
        Due.is(6, "38: the hour", () -> x.account(0));
        Due.is(0, "38: covers", () -> x.account(3));
        Due.is(16, "38: bell", () -> x.account(1));
        Due.is(1, "38: the input stays", () -> x.account(15));
        Due.is(0, "38: undo is forgotten", () -> x.account(16));
        Due.state("38: undo", () -> x.undo());
        x.pass(1);
        Due.is(6, "38: the snapshot stays", () -> x.restore());
        x.pass(2);
        Due.is(8, "37: in place of the earlier one", () -> x.save());
        x.undo();
        Due.is(6, "36: the hour", () -> x.account(0));
        Due.is(8, "38: the snapshot is not undone", () -> x.restore());
        Due.is(2, "38: horses", () -> x.account(4));
    }
}
