/** Puts texts on the tape of a SeatSwap and reads its texts. */
final class Texts {
    private Texts() {
    }

    /** Appends a text behind what the tape has; answers the new length, or what a refused append answered. */
    static int put(SeatSwap x, String text) {
        int length = 0;
        for (int from = 0; from < text.length(); from += 20) {
            length = x.append(four(text, from), four(text, from + 4), four(text, from + 8),
                four(text, from + 12), four(text, from + 16));
            if (length < 0) {
                return length;
            }
        }
        int padding = (20 - text.length() % 20) % 20;
        return x.truncate(padding);
    }

    private static int four(String text, int from) {
        int word = 0;
        for (int i = from; i < from + 4; i++) {
            word = word << 8 | (i < text.length() ? text.charAt(i) & 255 : 0);
        }
        return word;
    }

    static int load(SeatSwap x, String text) {
        put(x, text);
        return x.load();
    }

    /** A new object after a load of this setup, which must be right. */
    static SeatSwap loaded(String text) {
        SeatSwap x = new SeatSwap();
        if (load(x, text) < 0) {
            throw new IllegalArgumentException("no setup, error at " + x.errorPosition() + ": " + text);
        }
        return x;
    }

    static int come(SeatSwap x, String name, int seat, int ticket, int family, int sweets, int stop) {
        put(x, name);
        return x.come(seat, ticket, family, sweets, stop);
    }

    static String plan(SeatSwap x) {
        StringBuilder text = new StringBuilder();
        for (int i = 0; i < x.planLength(); i++) {
            text.append((char) x.planByte(i));
        }
        return text.toString();
    }

    static String setup(SeatSwap x) {
        StringBuilder text = new StringBuilder();
        for (int i = 0; i < x.setupLength(); i++) {
            text.append((char) x.setupByte(i));
        }
        return text.toString();
    }

    static String name(SeatSwap x, int traveller) {
        StringBuilder text = new StringBuilder();
        for (int i = 0; x.letter(traveller, i) > 0; i++) {
            text.append((char) ('a' - 1 + x.letter(traveller, i)));
        }
        return text.toString();
    }

    /** All that operations change, as far as it can be seen, and the setup. */
    static String state(SeatSwap x) {
        StringBuilder text = new StringBuilder(setup(x));
        for (int what = 0; what <= 15; what++) {
            text.append(' ').append(x.value(what));
        }
        for (int i = 0; i < x.value(15); i++) {
            text.append(" |");
            for (int what = 0; what < 3; what++) {
                text.append(' ').append(x.log(i, what));
            }
        }
        return text.toString();
    }
}
