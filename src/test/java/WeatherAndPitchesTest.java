/** Promises 1 to 9. */
public final class WeatherAndPitchesTest {
    public static void main(String[] args) {
        newObject();
        rainAndLight();
        bell();
        pitch();
        cover();
        pitchOf();
        sign();
        weatherActsOnPitches();
        Due.end();
    }

    private static void newObject() {
        RollerHorses x = new RollerHorses();
        int[] due = {0, 16, 0, 0, 0, 0, 0, 0, 0, 0, 0, 0, 0, 0, 0, 0, 0};
        for (int what = 0; what < due.length; what++) {
            int asked = what;
            Due.is(due[what], "1: account " + what, () -> x.account(asked));
        }
        for (int hour = 0; hour < 24; hour++) {
            int asked = hour;
            Due.is(0, "1: rain of " + hour, () -> x.weather(asked, false));
            Due.is(hour >= 6 && hour <= 19 ? 7 : 0, "1: light of " + hour, () -> x.weather(asked, true));
        }
        Due.is(-1, "1: error position", () -> x.errorPosition());
        Due.noElement("1: refusal", () -> x.refusal(true));
        Due.is(true, "1: isWell", () -> x.isWell());
    }

    private static void rainAndLight() {
        RollerHorses x = new RollerHorses();
        Due.is(0, "2: rain before", () -> x.rain(23, 9));
        Due.is(9, "2: rain before", () -> x.rain(23, 0));
        Due.is(0, "2: rain before", () -> x.rain(0, 4));
        Due.is(4, "5: rain", () -> x.weather(0, false));
        Due.is(0, "5: rain does not set light", () -> x.weather(0, true));
        Due.is(7, "3: light before", () -> x.light(12, 9));
        Due.is(9, "3: light before", () -> x.light(12, 0));
        Due.is(0, "3: light before", () -> x.light(23, 1));
        Due.is(1, "5: light", () -> x.weather(23, true));
        Due.is(0, "5: light does not set rain", () -> x.weather(23, false));
        Due.is(6, "2 and 3: six changes", () -> x.account(16));
        for (int hour : new int[] {-1, 24, Integer.MIN_VALUE, Integer.MAX_VALUE}) {
            Due.index("2: rain of hour " + hour, () -> x.rain(hour, 10));
            Due.index("3: light of hour " + hour, () -> x.light(hour, -1));
            Due.index("5: weather of hour " + hour, () -> x.weather(hour, true));
            Due.index("5: weather of hour " + hour, () -> x.weather(hour, false));
        }
        for (int amount : new int[] {-1, 10, Integer.MIN_VALUE, Integer.MAX_VALUE}) {
            Due.argument("2: rain " + amount, () -> x.rain(0, amount));
            Due.argument("3: light " + amount, () -> x.light(23, amount));
        }
        Due.is(4, "2: rain stays", () -> x.weather(0, false));
        Due.is(1, "3: light stays", () -> x.weather(23, true));
        Due.is(6, "2 and 3: no more changes", () -> x.account(16));
    }

    private static void bell() {
        RollerHorses x = new RollerHorses();
        Due.is(16, "4: bell before", () -> x.bell(0));
        Due.is(0, "4: bell before", () -> x.bell(23));
        Due.is(23, "4: hour of the tea", () -> x.account(1));
        Due.index("4: bell", () -> x.bell(24));
        Due.index("4: bell", () -> x.bell(-1));
        Due.is(23, "4: hour of the tea stays", () -> x.account(1));
        Due.is(2, "4: changes", () -> x.account(16));
    }

    private static void pitch() {
        RollerHorses x = new RollerHorses();
        for (int p = 0; p < 4; p++) {
            Due.is(p, "6: pitch", () -> x.pitch());
        }
        Due.refused(x, 1, 4, "6: fifth pitch", () -> x.pitch());
        Due.is(4, "6: pitches", () -> x.account(2));
        Due.is(80, "6: wetness of all", () -> x.account(14));
        Due.is(4, "6: changes", () -> x.account(16));
    }

    private static void cover() {
        RollerHorses x = new RollerHorses();
        Due.index("7: cover", () -> x.cover(0, true));
        x.pitch();
        x.horse(5, true);
        Due.index("7: cover", () -> x.cover(1, false));
        Due.index("7: cover", () -> x.cover(-1, false));
        Due.is(20, "7: cover", () -> x.cover(0, true));
        Due.is(20, "7: cover again", () -> x.cover(0, true));
        Due.is(1, "7: pitches with covers", () -> x.account(3));
        Due.is(20, "7: cover off", () -> x.cover(0, false));
        Due.is(20, "7: cover off again", () -> x.cover(0, false));
        Due.is(0, "7: pitches with covers", () -> x.account(3));
        Due.is(6, "7: changes", () -> x.account(16));
        x.horse(3, true);
        x.roll(1, 0, 1);
        Due.refused(x, 4, 1, "7: cover a rolled pitch", () -> x.cover(0, true));
        Due.is(0, "7: no cover then", () -> x.pitchOf(0, 3));
        Due.is(20, "7: off a rolled pitch", () -> x.cover(0, false));
        x.pass(1);
        Due.is(19, "7: behind the rolling", () -> x.cover(0, true));
    }

    private static void pitchOf() {
        RollerHorses x = new RollerHorses();
        Due.index("8: pitchOf", () -> x.pitchOf(0, -1));
        x.pitch();
        int[] due = {20, 10, 0, 0, -1, -1, 0};
        for (int what = 0; what < due.length; what++) {
            int asked = what;
            Due.is(due[what], "8: pitchOf " + what, () -> x.pitchOf(0, asked));
        }
        Due.argument("8: pitchOf", () -> x.pitchOf(0, 7));
        Due.argument("8: pitchOf", () -> x.pitchOf(0, -1));
        Due.index("8: pitchOf", () -> x.pitchOf(1, 7));
        x.umpire(1);
        x.horse(9, false);
        x.horse(4, false);
        x.roll(1, 0, 2);
        Due.is(1, "8: horse", () -> x.pitchOf(0, 4));
        x.pass(8);
        Due.is(-1, "8: horse", () -> x.pitchOf(0, 4));
        Due.is(18, "8: hardness", () -> x.pitchOf(0, 1));
        Due.is(4, "8: ruts", () -> x.pitchOf(0, 2));
        Due.is(10, "8: wetness", () -> x.pitchOf(0, 0));
        x.innings(0, 0, 10);
        x.end(0);
        x.innings(0, 0, 10);
        Due.is(1, "8: innings", () -> x.pitchOf(0, 5));
        x.bowl(1, 5);
        Due.is(5, "8: balls", () -> x.pitchOf(0, 6));
        x.bowl(1, 5);
        Due.is(10, "8: balls", () -> x.pitchOf(0, 6));
        Due.is(-1, "8: innings are over", () -> x.pitchOf(0, 5));
        x.cover(0, true);
        Due.is(1, "8: cover", () -> x.pitchOf(0, 3));
    }

    private static void sign() {
        RollerHorses x = new RollerHorses();
        Due.index("9: sign", () -> x.sign(0));
        x.pitch();
        x.horse(2, true);
        x.umpire(1);
        Due.is('d', "9: dry", () -> x.sign(0));
        Due.index("9: sign", () -> x.sign(-1));
        Due.index("9: sign", () -> x.sign(1));
        x.rain(0, 9);
        x.rain(1, 1);
        x.pass(2);
        Due.is(60, "9: wetness", () -> x.pitchOf(0, 0));
        Due.is('d', "9: at 60", () -> x.sign(0));
        x.rain(2, 1);
        x.pass(1);
        Due.is(64, "9: wetness", () -> x.pitchOf(0, 0));
        Due.is('w', "9: above 60", () -> x.sign(0));
        x.roll(0, 0, 1);
        Due.is('h', "9: rolled and wet", () -> x.sign(0));
        x.pass(7);
        Due.is('d', "9: dry again", () -> x.sign(0));
        Due.is(51, "9: wetness", () -> x.pitchOf(0, 0));
        x.innings(0, 0, 6);
        Due.is('i', "9: innings", () -> x.sign(0));
        x.rain(10, 9);
        x.pass(1);
        Due.is('i', "9: innings and wet", () -> x.sign(0));
        x.cover(0, true);
        Due.is('c', "9: cover and innings", () -> x.sign(0));
        x.cover(0, false);
        x.end(0);
        Due.is('w', "9: innings are over", () -> x.sign(0));
        x.cover(0, true);
        Due.is('c', "9: cover", () -> x.sign(0));
    }

    private static void weatherActsOnPitches() {
        RollerHorses x = new RollerHorses();
        x.pitch();
        x.pitch();
        x.cover(1, true);
        for (int hour = 0; hour < 24; hour++) {
            x.rain(hour, 9);
            x.light(hour, 9);
        }
        x.pass(1);
        Due.is(52, "17: rain of 36 and light of 4", () -> x.pitchOf(0, 0));
        x.pass(2);
        Due.is(95, "27: at most 99, then less the light", () -> x.pitchOf(0, 0));
        Due.is(20, "27: a cover keeps all away", () -> x.pitchOf(1, 0));
        for (int hour = 0; hour < 24; hour++) {
            x.rain(hour, 0);
            x.light(hour, 9);
        }
        x.pass(23);
        Due.is(3, "27: less 4 an hour", () -> x.pitchOf(0, 0));
        x.pass(1);
        Due.is(0, "27: at least 0", () -> x.pitchOf(0, 0));
        Due.is(20, "27: a cover keeps all away", () -> x.pitchOf(1, 0));
    }
}
