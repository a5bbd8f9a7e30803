/** Puts texts on the tape of a SeatSwap and reads its texts. */
final class Texts {
    private Texts() {
    }

    /** Appends a text behind what the tape has; answers the new length, or what a refused append answered. */
    static int put(SeatSwap x, String text) {
        int length = 0;
        for (int from = 0; from < text.length(); from += 20) {
            length = x.append(four(text, from), four(text, from + 4), four(text, from + 8),
                four(text, from + 12), four(text, from + 16));
            if (length < 0) {
                return length;
            }
        }
        int padding = (20 - text.length() % 20) % 20;
        return x.truncate(padding);
    }

    private static int four(String text, int from) {
        int word = 0;
        for (int i = from; i < from + 4; i++) {
            word = word << 8 | (i < text.length() ? text.charAt(i) & 255 : 0);
        }
        return word;
    }

    static int load(SeatSwap x, String text) {
        put(x, text);
        return x.load();
    }

    /** A new object after a load of this setup, which must be right. */
    static SeatSwap loaded(String text) {
        SeatSwap x = new SeatSwap();
        if (load(x, text) < 0) {
            throw new IllegalArgumentException("no setup, error at " + x.errorPosition() + ": " + text);
        }
        return x;
    }

    static int come(SeatSwap x, String name, int seat, int ticket, int family, int sweets, int stop) {
        put(x, name);
        return x.come(seat, ticket, family, sweets, stop);
    }

    static String plan(SeatSwap x) {
        StringBuilder text = new StringBuilder();
        int length = x.planLength();
        for (int i = 0; i < length; i++) {
            text.append((char) x.planByte(i));
        }
        return text.toString();
    }

    static String setup(SeatSwap x) {
        StringBuilder text = new StringBuilder();
        int length = x.setupLength();
        for (int i = 0; i < length; i++) {
            text.append((char) x.setupByte(i));
        }
        return text.toString();
    }

    static String name(SeatSwap x, int traveller) {
        StringBuilder text = new StringBuilder();
        for (int i = 0; i < 6; i++) {
            int letter = x.letter(traveller, i);
            text.append(letter > 0 ? String.valueOf((char) ('a' - 1 + letter)) : "");
        }
        return text.toString();
    }

    /** What operations change, in some sixty calls, as an object is good for 512. */
    static String state(SeatSwap x) {
        StringBuilder text = new StringBuilder("values");
        for (int what = 0; what <= 15; what++) {
            text.append(' ').append(x.value(what));
        }
        for (int t = 0; t < x.value(3); t++) {
            text.append(" | ").append((char) ('a' - 1 + x.letter(t, 0)));
            for (int what = 0; what <= 8; what++) {
                text.append(' ').append(x.of(t, what));
            }
        }
        int entries = x.value(15);
        for (int what = 0; what < 3 && entries > 0; what++) {
            text.append(what == 0 ? " | log " : " ").append(x.log(0, what)).append(' ').append(x.log(entries - 1, what));
        }
        return text.toString();
    }
}
