/** All that the answers of a ground tell of its state, as one text. */
final class State {
    private State() {
    }

    static String of(RollerHorses x) {
        StringBuilder text = new StringBuilder();
        for (int what = 0; what <= 14; what++) {
            text.append("account ").append(what).append(": ").append(x.account(what)).append('\n');
        }
        text.append("undone: ").append(x.account(16)).append('\n');
        for (int hour = 0; hour < 24; hour++) {
            text.append(x.weather(hour, false)).append('/').append(x.weather(hour, true)).append(' ');
        }
        parts(x, text);
        return text.toString();
    }

    private static void parts(RollerHorses x, StringBuilder text) {
        for (int p = 0; p < x.account(2); p++) {
            text.append("\npitch ").append(x.sign(p));
            for (int what = 0; what <= 6; what++) {
                text.append(' ').append(x.pitchOf(p, what));
            }
            for (int u = 0; u < x.account(7); u++) {
                text.append(" call ").append(x.call(u, p));
            }
        }
        for (int h = 0; h < x.account(4); h++) {
            text.append("\nhorse");
            for (int what = 0; what <= 5; what++) {
                text.append(' ').append(x.horseOf(h, what));
            }
        }
        for (int i = 0; i < x.account(8); i++) {
            text.append("\ninnings");
            for (int what = 0; what <= 6; what++) {
                text.append(' ').append(x.inningsOf(i, what));
            }
            for (int worth = 0; worth <= 6; worth++) {
                text.append(' ').append(x.balls(i, worth));
            }
            text.append(" ranked ").append(x.ranked(i));
        }
    }
}
