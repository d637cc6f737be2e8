import java.util.regex.Matcher;
import java.util.regex.Pattern;

/** The boundary cases of promises 28 to 31: texts, their errors, and what is kept of a refusal. */
public final class BoundaryTextsTest {
    private static final String ORDER = "(r[0-9]:[0-9]\\+[0-9]|b[0-9]{1,2}\\*[0-9]{1,2}|[cu][0-9]|[eh][0-9]{1,2})";
    private static final Pattern TEXT = Pattern.compile(ORDER + "(;" + ORDER + ")*");
    private static final String TWENTY_ORDERS = "h1;h1;h1;h1;h1;h1;h1;h1;h1;h1;h1;h1;h1;h1;h1;h1;h1;h1;h1;h1";

    public static void main(String[] args) {
        charactersInTheInput();
        noMoreCharacters();
        numberOfOrders();
        inputIsEmptyAfterwards();
        numbersOfOrders();
        ordersDoAsTheMethods();
        ordersWithNoSuchNumber();
        ordersOutOfRange();
        ordersThatAreRefused();
        ordersThatAreRefusedByOrdersAhead();
        firstOrderDecides();
        errorGoesAheadOfOrders();
        textsThatEndTooEarly();
        charactersThatCannotContinue();
        everyShortText();
        everyCharacterAtEveryPlace();
        errorPositionOfTheLatestRead();
        nothingWasRefused();
        latestRefusal();
        Due.end();
    }

    /** Promise 28: "Returns the characters in the input then", 1 to 60, any character. */
    private static void charactersInTheInput() {
        RollerHorses x = Grounds.playable();
        char[] odd = {0, 1, 127, 128, 255, 256, 0xd800, 0xffff};
        for (int i = 1; i <= 60; i++) {
            int length = i;
            Due.is(length - 1, "32, characters in the input", () -> x.account(15));
            Due.is(length, "28, characters then", () -> x.append(odd[length % odd.length]));
        }
        Due.is(60, "32, characters in the input", () -> x.account(15));
        Due.argument("28, they are an error", () -> x.read());
        Due.is(0, "30, at the first one", () -> x.errorPosition());
        Due.is(1, "28, from 1 again", () -> x.append('h'));
    }

    /** Promise 28: "if the input contains 60 characters", which it contains then, too. */
    private static void noMoreCharacters() {
        for (char c : new char[] {'1', ';', 0, 0xffff}) {
            RollerHorses x = Grounds.full();
            appendAll(x, TWENTY_ORDERS);
            Due.is(60, "28, the last one", () -> x.append('2'));
            String before = State.of(Grounds.full());
            Due.state("28, 60 characters", () -> x.append(c));
            Due.state("28, 60 characters still", () -> x.append(c));
            Due.is(60, "28, the input stays", () -> x.account(15));
            Due.is(-1, "28, the error position stays", () -> x.errorPosition());
            Due.noElement("28, no reason", () -> x.refusal(false));
            Due.is(before, "28, all stays", () -> State.of(x));
            Due.is(20, "28, the text stays", () -> x.read());
            Due.is(37, "29, 6 and 19 and 12", () -> x.account(0));
        }
        RollerHorses y = Grounds.playable();
        appendAll(y, TWENTY_ORDERS);
        y.undo();
        y.save();
        y.restore();
        Due.is(59, "28, the input stays", () -> y.account(15));
    }

    private static void appendAll(RollerHorses x, String text) {
        for (int i = 0; i < text.length(); i++) {
            x.append(text.charAt(i));
        }
    }

    /** Promise 29: "Returns the number of orders", 1 to 20 of them. */
    private static void numberOfOrders() {
        for (int n = 1; n <= 20; n++) {
            int orders = n;
            String text = TWENTY_ORDERS.substring(0, 3 * n - 1);
            RollerHorses x = new RollerHorses();
            Due.is(orders, "29, orders", () -> Due.read(x, text));
            Due.is(orders, "29, they are carried out", () -> x.account(0));
            Due.is(1, "29, they are one change", () -> x.account(16));
            Due.is(0, "29, the input is empty", () -> x.account(15));
            Due.is(-1, "30, no error", () -> x.errorPosition());
        }
        RollerHorses y = new RollerHorses();
        Due.is(20, "29, 20 orders of 60 characters", () -> Due.read(y, TWENTY_ORDERS + "9"));
        Due.is(38, "29, they are carried out", () -> y.account(0));
    }

    /** Promise 29: "which is empty afterwards, also if an exception is thrown". */
    private static void inputIsEmptyAfterwards() {
        RollerHorses x = Grounds.playable();
        x.cover(0, true);
        Due.is(1, "29, carried out", () -> Due.read(x, "h1"));
        Due.is(0, "29, empty", () -> x.account(15));
        Due.argument("29, an error", () -> Due.read(x, "h1;"));
        Due.is(0, "29, empty", () -> x.account(15));
        Due.argument("29, no such number", () -> Due.read(x, "c1"));
        Due.is(0, "29, empty", () -> x.account(15));
        Due.is("UnsupportedOperationException", "29, refused", () -> Due.read(x, "r0:0+1"));
        Due.is(0, "29, empty", () -> x.account(15));
        Due.argument("29, no text is left", () -> x.read());
        Due.is(0, "30, it ends too early", () -> x.errorPosition());
        Due.is(0, "29, empty", () -> x.account(15));
    }

    /** Terms, Texts: each order, with the least and the greatest numbers that it can have. */
    private static void numbersOfOrders() {
        String[] texts = {"r0:0+1", "r0:0+6", "r3:0+1", "c0", "c1", "u0", "u3", "e11", "h1", "h01", "h9", "h09", "h10", "h72",
            "b11*1", "b11*01", "b11*9", "b11*26"};
        for (String text : texts) {
            RollerHorses x = Grounds.full();
            Due.is(1, "29, " + text, () -> Due.read(x, text));
            Due.is(-1, "30, no error in " + text, () -> x.errorPosition());
        }
        RollerHorses x = Grounds.full();
        Due.is(2, "29, pitch 3 and horse 3", () -> Due.read(x, "u3;r3:3+6"));
        Due.is(3, "29, horse 3 rolls pitch 3", () -> x.pitchOf(3, 4));
        Due.is(6, "29, for 6 hours", () -> x.horseOf(3, 3));
        RollerHorses y = Grounds.played(120);
        Due.is(2, "29, innings of one and two digits", () -> Due.read(y, "b0*9;b00*27"));
        Due.is(36, "29, balls", () -> y.inningsOf(0, 3));
        Due.is(1, "29, 36 balls at once", () -> Due.read(Grounds.played(120), "b0*36"));
        RollerHorses z = Grounds.playable();
        Due.is(15, "29, 15 times 72 hours", () -> Due.read(z, "h72;h72;h72;h72;h72;h72;h72;h72;h72;h72;h72;h72;h72;h72;h72"));
        Due.is(1086, "29, the hour", () -> z.account(0));
    }

    /** Terms, Texts: what each order lets be done, with the least and the greatest numbers, and nothing else. */
    private static void ordersDoAsTheMethods() {
        asTheMethod(() -> Grounds.full(), "r0:0+1", x -> x.roll(0, 0, 1));
        asTheMethod(() -> Grounds.full(), "r3:0+6", x -> x.roll(3, 0, 6));
        asTheMethod(() -> Grounds.full(), "b11*1", x -> x.bowl(11, 1));
        asTheMethod(() -> Grounds.full(), "b11*26", x -> x.bowl(11, 26));
        asTheMethod(() -> Grounds.full(), "c0", x -> x.cover(0, true));
        asTheMethod(() -> Grounds.full(), "c3", x -> x.cover(3, true));
        asTheMethod(() -> Grounds.full(), "u0", x -> x.cover(0, false));
        asTheMethod(() -> Grounds.full(), "u3", x -> x.cover(3, false));
        asTheMethod(() -> Grounds.full(), "e11", x -> x.end(11));
        asTheMethod(() -> Grounds.full(), "h1", x -> x.pass(1));
        asTheMethod(() -> Grounds.full(), "h72", x -> x.pass(72));
        asTheMethod(() -> twoInnings(), "r0:2+6", x -> x.roll(0, 2, 6));
        asTheMethod(() -> twoInnings(), "r1:2+1", x -> x.roll(1, 2, 1));
        asTheMethod(() -> twoInnings(), "b0*36", x -> x.bowl(0, 36));
        asTheMethod(() -> twoInnings(), "b01*02", x -> x.bowl(1, 2));
        asTheMethod(() -> twoInnings(), "c0", x -> x.cover(0, true));
        asTheMethod(() -> twoInnings(), "c1", x -> x.cover(1, true));
        asTheMethod(() -> twoInnings(), "u0", x -> x.cover(0, false));
        asTheMethod(() -> twoInnings(), "u1", x -> x.cover(1, false));
        asTheMethod(() -> twoInnings(), "e0", x -> x.end(0));
        asTheMethod(() -> twoInnings(), "e01", x -> x.end(1));
        asTheMethod(() -> twoInnings(), "h09", x -> x.pass(9));
    }

    /** Innings 0 on pitch 0 and innings 1 on pitch 1, and pitch 2 for the horses 0 and 1. */
    private static RollerHorses twoInnings() {
        RollerHorses x = Grounds.stable();
        x.pitch();
        x.innings(0, 0, 120);
        x.innings(1, 0, 120);
        return x;
    }

    private static void asTheMethod(Thrown.Maker ground, String text, Thrown.Step method) {
        RollerHorses x = ground.make();
        RollerHorses y = ground.make();
        Due.is(1, "29, " + text, () -> Due.read(x, text));
        method.on(y);
        Due.is(State.of(y), "29, as the method: " + text, () -> State.of(x));
    }

    /** Promise 29: "the method for an order would throw another exception": no such number. */
    private static void ordersWithNoSuchNumber() {
        String[] texts = {"r5:0+1", "r9:0+1", "r0:4+1", "r0:9+6", "r9:9+9", "r5:2+1", "c4", "c9", "u4", "u9", "e12", "e99",
            "b12*1", "b99*36", "b12*0", "h1;c4", "c0;u0;h1;e12"};
        for (String text : texts) {
            Thrown.readArgument("29, no such number", () -> Grounds.full(), text);
        }
        String[] none = {"r0:0+1", "c0", "u0", "e0", "e00", "b0*1", "b00*01"};
        for (String text : none) {
            Thrown.readArgument("29, none yet", RollerHorses::new, text);
        }
    }

    /** Promise 29: "the method for an order would throw another exception": out of range, also ahead of a refusal. */
    private static void ordersOutOfRange() {
        String[] texts = {"r0:0+0", "r0:0+7", "r0:0+9", "r4:0+0", "r0:1+7", "r0:2+0", "r0:3+7", "h0", "h00", "h73", "h99",
            "b11*0", "b11*00", "b11*37", "b11*99", "b0*37", "h1;h0", "c0;h73"};
        for (String text : texts) {
            Thrown.readArgument("29, out of range", () -> Grounds.full(), text);
        }
    }

    /** Promise 29: "if it is refused for a reason of the method for an order; the reason is kept for refusal". */
    private static void ordersThatAreRefused() {
        Thrown.readRefused("29, reason 2", () -> Grounds.full(), "r4:0+1", 2, 6);
        Thrown.readRefused("29, reason 3", () -> Grounds.makeTired(Grounds.playable()), "r0:0+1", 3, 16);
        Thrown.readRefused("29, reason 4", () -> Grounds.full(), "r0:2+1", 4, 4);
        Thrown.readRefused("29, reason 4", () -> Grounds.full(), "c2", 4, 4);
        Thrown.readRefused("29, reason 5", () -> Grounds.full(), "r0:1+1", 5, 11);
        Thrown.readRefused("29, reason 6", () -> Grounds.full(), "r0:3+1", 6, 3);
        Thrown.readRefused("29, reason 7", () -> Grounds.makeWet(Grounds.stable(), 61), "r0:0+1", 7, 61);
        Thrown.readRefused("29, reason 8", () -> Grounds.makeDark(Grounds.full()), "b11*26", 8, 2);
        Thrown.readRefused("29, reason 9", () -> Grounds.full(), "b10*1", 9, 10);
        Thrown.readRefused("29, reason 9", () -> Grounds.full(), "e0", 9, 0);
        Thrown.readRefused("29, reason 10", () -> Grounds.full(), "b11*27", 10, 26);
        Due.is(1, "29, not refused: a cover that is off", () -> Due.read(Grounds.full(), "u0"));
        Due.is(1, "29, not refused: off a rolled pitch", () -> Due.read(Grounds.full(), "u2"));
        Due.is(1, "29, not refused: covered again", () -> Due.read(Grounds.full(), "c3"));
    }

    /** Terms, Texts: "if each order can be, one after the other; else nothing of it is". */
    private static void ordersThatAreRefusedByOrdersAhead() {
        Thrown.readRefused("29, reason 2", () -> Grounds.full(), "r0:0+6;h5;r0:0+1", 2, 1);
        Thrown.readRefused("29, reason 3", () -> Grounds.full(), "r0:0+6;h6;r0:0+2;h2;r0:0+1", 3, 16);
        Thrown.readRefused("29, reason 4", () -> Grounds.full(), "r0:0+1;c0", 4, 0);
        Thrown.readRefused("29, reason 6", () -> Grounds.full(), "h1;c0;r0:0+1", 6, 0);
        Thrown.readRefused("29, reason 8", () -> Grounds.full(), "b11*1;c1;b11*1", 8, 6);
        Thrown.readRefused("29, reason 9", () -> Grounds.full(), "e11;b11*1", 9, 11);
        Thrown.readRefused("29, reason 9", () -> Grounds.full(), "e11;e11", 9, 11);
        Thrown.readRefused("29, reason 9", () -> Grounds.full(), "b11*26;e11", 9, 11);
        Thrown.readRefused("29, reason 10", () -> Grounds.full(), "b11*20;b11*7", 10, 6);
        Due.is(3, "29, by orders ahead it can be", () -> Due.read(Grounds.full(), "e11;u3;r0:1+1"));
        Due.is(3, "29, by orders ahead it can be", () -> Due.read(Grounds.full(), "h6;c2;u3"));
        Due.is(2, "29, all that are left", () -> Due.read(Grounds.full(), "b11*20;b11*6"));
    }

    /** Terms, Texts: "the first order that cannot be decides what is thrown". */
    private static void firstOrderDecides() {
        Thrown.readArgument("29, no such number, then refused", () -> Grounds.full(), "c4;e0");
        Thrown.readArgument("29, out of range, then refused", () -> Grounds.full(), "h0;e0");
        Thrown.readRefused("29, refused, then no such number", () -> Grounds.full(), "e0;c4", 9, 0);
        Thrown.readRefused("29, refused, then out of range", () -> Grounds.full(), "e0;h0", 9, 0);
        Thrown.readRefused("29, refused, then refused", () -> Grounds.full(), "e10;e0", 9, 10);
        Thrown.readRefused("29, refused, then refused", () -> Grounds.full(), "h1;c2;e10;b11*27", 4, 4);
    }

    /** Promise 29: "if the text has an error" is documented ahead of a refusal, wherever the error is. */
    private static void errorGoesAheadOfOrders() {
        Thrown.readError("29, refused, and an error", () -> Grounds.full(), "e0;", 3);
        Thrown.readError("29, refused, and an error", () -> Grounds.full(), "e0;x", 3);
        Thrown.readError("29, refused, and an error", () -> Grounds.full(), "e0;h1 ", 5);
        Thrown.readError("29, no such number, and an error", () -> Grounds.full(), "c4;c", 4);
        Thrown.readError("29, fine, and an error", () -> Grounds.full(), "h1;c0;e", 7);
    }

    /** Terms, Texts: "or the length of the text if it ends too early". */
    private static void textsThatEndTooEarly() {
        for (String text : new String[] {"r0:0+1", "b0*1", "b00*10", "c0", "u0", "e0", "h1"}) {
            for (int length = 0; length < text.length(); length++) {
                String part = text.substring(0, length);
                if (!TEXT.matcher(part).matches()) {
                    Thrown.readError("30, ends too early", () -> Grounds.playable(), part, length);
                    Thrown.readError("30, ends too early", () -> Grounds.playable(), "h1;" + part, length + 3);
                }
            }
        }
        String full = TWENTY_ORDERS + ";";
        Due.is(60, "30, a text of 60 characters", () -> full.length());
        Thrown.readError("30, ends too early at 60", () -> Grounds.playable(), full, 60);
        Thrown.readError("30, ends too early at 60", () -> Grounds.playable(), TWENTY_ORDERS.substring(0, 57) + "b12", 60);
        Thrown.readError("30, cannot continue at 59", () -> Grounds.playable(), TWENTY_ORDERS + "x", 59);
    }

    /** Terms, Texts: "the offset of the first character that cannot continue such a text". */
    private static void charactersThatCannotContinue() {
        Object[][] texts = {{" ", 0}, {";", 0}, {"1", 0}, {"R0:0+1", 0}, {"r:0+1", 1}, {"r00:0+1", 2}, {"r0;0+1", 2},
            {"r0:a+1", 3}, {"r0:00+1", 4}, {"r0:0*1", 4}, {"r0:0+;", 5}, {"r0:0+11", 6}, {"b*1", 1}, {"b000*1", 3},
            {"b00+1", 3}, {"b0*;", 3}, {"b0*111", 5}, {"c;", 1}, {"c00", 2}, {"u00", 2}, {"e;", 1}, {"e111", 3}, {"h;", 1},
            {"h111", 3}, {"h-1", 1}, {"h1,h1", 2}, {"h1;;h1", 3}, {"h1; h1", 3}, {"h1;h1;h1;q", 9}, {"h\u0661", 1}};
        for (Object[] text : texts) {
            Thrown.readError("30, cannot continue", () -> Grounds.playable(), (String) text[0], (int) text[1]);
        }
    }

    /** By a second way: the longest beginning that can be continued to a text of the orders' pattern. */
    private static int errorOf(String text) {
        for (int length = 1; length <= text.length(); length++) {
            Matcher matcher = TEXT.matcher(text.substring(0, length));
            if (!matcher.matches() && !matcher.hitEnd()) {
                return length - 1;
            }
        }
        return TEXT.matcher(text).matches() ? -1 : text.length();
    }

    /** Terms, Texts: the error position of each text of at most four characters. */
    private static void everyShortText() {
        String signs = "rbcueh09:+*;x";
        int texts = 1;
        for (int length = 0; length <= 4; length++) {
            RollerHorses x = new RollerHorses();
            for (int t = 0; t < texts; t++) {
                x = t % 40 == 0 ? new RollerHorses() : x;
                StringBuilder text = new StringBuilder();
                for (int rest = t, i = 0; i < length; i++, rest /= signs.length()) {
                    text.append(signs.charAt(rest % signs.length()));
                }
                isReadWithError(x, text.toString());
            }
            texts *= signs.length();
        }
    }

    /** Terms, Texts: any other character at each place of a text with orders of each kind. */
    private static void everyCharacterAtEveryPlace() {
        String text = "r0:0+1;b00*01;b0*1;c0;u0;e0;e00;h1;h01";
        RollerHorses x = new RollerHorses();
        for (int place = 0; place < text.length(); place++) {
            for (char c = 0; c <= 300; c += c < 128 ? 1 : 43) {
                x = c % 3 == 0 || c > 128 ? new RollerHorses() : x;
                isReadWithError(x, text.substring(0, place) + c + text.substring(place + 1));
            }
        }
    }

    private static void isReadWithError(RollerHorses x, String text) {
        try {
            Due.read(x, text);
        } catch (IllegalArgumentException e) {
            // An error, or an order that cannot be on an empty ground.
        }
        Due.is(errorOf(text), "30, the error position of \"" + text + "\"", () -> x.errorPosition());
    }

    /** Promise 30: "of the latest call of read", "or -1 if that text had no error or read has not been called". */
    private static void errorPositionOfTheLatestRead() {
        RollerHorses x = Grounds.playable();
        Due.is(-1, "30, read has not been called", () -> x.errorPosition());
        appendAll(x, "h1;");
        Due.is(-1, "30, read has not been called yet", () -> x.errorPosition());
        Due.argument("30, an error", () -> x.read());
        Due.is(3, "30, the length", () -> x.errorPosition());
        x.append('h');
        Due.is(3, "30, it stays", () -> x.errorPosition());
        x.append('1');
        Due.is(1, "30, no error", () -> x.read());
        Due.is(-1, "30, no error", () -> x.errorPosition());
        Due.argument("30, an error at 0", () -> Due.read(x, "x"));
        Due.is(0, "30, at 0", () -> x.errorPosition());
        x.pass(1);
        x.save();
        x.undo();
        x.restore();
        Due.is(0, "30, neither undone nor saved", () -> x.errorPosition());
        Due.argument("30, no such number", () -> Due.read(x, "c9"));
        Due.is(-1, "30, no error", () -> x.errorPosition());
        Due.argument("30, no text", () -> x.read());
        Due.is(0, "30, at 0", () -> x.errorPosition());
        x.cover(0, true);
        Due.refused(x, 6, 0, "30, refused", () -> Due.read(x, "r0:0+1"));
        Due.is(-1, "30, no error", () -> x.errorPosition());
    }

    /** Promise 31: "NoSuchElementException if nothing was refused", whatever else was thrown. */
    private static void nothingWasRefused() {
        Thrown.noElement("31, nothing was refused", () -> Grounds.full(), x -> x.refusal(false));
        Thrown.noElement("31, nothing was refused", () -> Grounds.full(), x -> x.refusal(true));
        RollerHorses x = Grounds.full();
        Due.index("31, no reason", () -> x.cover(4, true));
        Due.argument("31, no reason", () -> x.bowl(11, 37));
        Due.argument("31, no reason", () -> Due.read(x, "e12"));
        Due.argument("31, no reason", () -> Due.read(x, "e0;"));
        Due.noElement("31, no reason", () -> x.bestHorse(2));
        Due.noElement("31, no reason", () -> x.fitIn(0, 3));
        Due.is(6, "31, no reason", () -> x.call(0, 3));
        Due.noElement("31, nothing was refused", () -> x.refusal(false));
        Due.noElement("31, nothing was refused", () -> x.refusal(true));
    }

    /** Promise 31: "the reason of the latest refusal", "true for the detail, false for the reason". */
    private static void latestRefusal() {
        RollerHorses x = Grounds.full();
        Due.refused(x, 1, 4, "31, the first", () -> x.pitch());
        Due.refused(x, 9, 0, "31, a later one, with a detail of 0", () -> x.end(0));
        Due.refused(x, 2, 6, "31, a later one", () -> x.boots(4, true));
        Due.refused(x, 1, 12, "31, the greatest detail of room", () -> x.innings(0, 0, 6));
        Due.refused(x, 10, 26, "31, the greatest reason", () -> x.bowl(11, 36));
        Due.is(11, "31, a call that is not refused", () -> x.end(11));
        Due.index("31, another exception", () -> x.end(12));
        Due.argument("31, another exception", () -> Due.read(x, "h0"));
        Due.is(10, "31, the latest one stays", () -> x.refusal(false));
        x.undo();
        x.save();
        x.restore();
        Due.is(26, "31, neither undone nor saved", () -> x.refusal(true));
        Due.is(10, "31, neither undone nor saved", () -> x.refusal(false));
    }
}
