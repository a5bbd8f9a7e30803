import java.util.Random;

/** Runs of up to 512 calls, the same every time, on a SeatSwap and on the model of the document. */
public final class ModelTest {
    private static final int RUNS = 1500;
    private static final int CALLS = 512;
    private static final int[] ODD = {-1, Integer.MIN_VALUE, Integer.MAX_VALUE, -2, 1 << 20, 100, 21, 40};

    private final Check check;
    private final Random random;
    private final int run;
    private final SeatSwap x = new SeatSwap();
    private final Model m = new Model();
    private int calls = 0;

    private ModelTest(Check check, int run) {
        this.check = check;
        this.run = run;
        random = new Random(977L * run + 5);
    }

    public static void main(String[] args) {
        Check check = new Check("ModelTest");
        for (int run = 0; run < RUNS; run++) {
            new ModelTest(check, run).runAll();
        }
        new ModelTest(check, RUNS).settleLong();
        check.end();
    }

    private void runAll() {
        if (run % 5 == 0) {
            while (calls < CALLS - 150) {
                load(spoiled(setupText()));
                look(10);
            }
            return;
        }
        if (run % 5 != 1) {
            load(setupText());
        }
        while (calls < CALLS - 60) {
            change();
            look(random.nextInt(6));
        }
    }

    private void settleLong() {
        load(EdgesOfExchangesTest.LONG);
        for (int i = 0; i < 3; i++) {
            same("settle", x.settle(), m.settle());
            for (int what = 5; what <= 8; what++) {
                same("value " + what, x.value(what), m.value(what));
            }
            for (int t = 0; t < 20; t++) {
                same("seat of " + t, x.of(t, 0), m.of(t, 0));
            }
        }
    }

    private void same(String call, double got, double want) {
        calls++;
        if (got != want) {
            check.that("run " + run + ", call " + calls + ", " + call + " answered " + got + ", model " + want
                + "\n" + m.setup(), false);
        } else {
            check.that(call, true);
        }
    }

    private int upTo(int most) {
        return random.nextInt(12) == 0 ? odd(most) : random.nextInt(most + 1);
    }

    private int odd(int most) {
        int choice = random.nextInt(ODD.length + 2);
        return choice < ODD.length ? ODD[choice] : most + 1;
    }

    private int valid(int low, int high) {
        return high < low ? low : low + random.nextInt(high - low + 1);
    }

    private int traveller() {
        return upTo(Math.max(0, m.value(3) - 1));
    }

    private int seat() {
        return upTo(4 * m.value(0) - 1);
    }

    private void put(String text) {
        for (int from = 0; from < text.length(); from += 20) {
            int[] words = new int[5];
            for (int i = 0; i < 20; i++) {
                int b = from + i < text.length() ? text.charAt(from + i) & 255 : random.nextInt(256);
                words[i / 4] = words[i / 4] << 8 | b;
            }
            same("append", x.append(words[0], words[1], words[2], words[3], words[4]),
                m.append(words[0], words[1], words[2], words[3], words[4]));
        }
        int padding = (20 - text.length() % 20) % 20;
        if (padding > 0) {
            same("truncate", x.truncate(padding), m.truncate(padding));
        }
    }

    private void emptyTape() {
        int length = m.tapeText().length();
        if (length > 0) {
            same("truncate", x.truncate(length), m.truncate(length));
        }
    }

    private void load(String text) {
        emptyTape();
        put(text);
        String shown = m.tapeText();
        same("load " + shown, x.load(), m.load());
        same("errorPosition " + shown, x.errorPosition(), m.errorPosition());
    }

    private String name() {
        StringBuilder text = new StringBuilder();
        int length = 1 + random.nextInt(5);
        for (int i = 0; i < length; i++) {
            text.append((char) ('a' + random.nextInt(26)));
        }
        return text.toString();
    }

    private String gap() {
        int choice = random.nextInt(12);
        return choice == 0 ? "  " : choice == 1 ? "\n" : " ";
    }

    private String like() {
        return (random.nextBoolean() ? "+" : "-") + (random.nextInt(9) == 0 ? " " : "") + random.nextInt(10);
    }

    private String setupText() {
        int rows = 2 + random.nextInt(9);
        int first = random.nextInt(3) == 0 ? random.nextInt(rows + 1) : random.nextInt(2);
        StringBuilder text = new StringBuilder("train " + rows + gap() + "first " + first + ";");
        int many = Math.min(random.nextInt(21), 4 * rows);
        int families = 1 + random.nextInt(9);
        boolean plain = random.nextInt(4) == 0;
        boolean[] taken = new boolean[4 * rows];
        for (int i = 0; i < many; i++) {
            int seat = random.nextInt(4 * rows);
            while (taken[seat]) {
                seat = (seat + 1) % (4 * rows);
            }
            taken[seat] = true;
            text.append("seat ").append(seat).append(gap()).append(random.nextInt(3) == 0 ? name() : "ab");
            text.append(seat / 4 < first || random.nextInt(5) == 0 ? " ticket" : "");
            text.append(random.nextInt(3) > 0 ? " family " + (1 + random.nextInt(families)) : "");
            if (!plain) {
                text.append(random.nextInt(2) == 0 ? gap() + "window " + like() : "");
                text.append(random.nextInt(2) == 0 ? " ahead" + gap() + like() : "");
                text.append(random.nextInt(3) == 0 ? " row " + random.nextInt(rows) + " " + random.nextInt(4) : "");
            }
            text.append(random.nextInt(3) == 0 ? " sweets " + random.nextInt(100) : "");
            text.append(random.nextInt(3) == 0 ? " stop " + (1 + random.nextInt(99)) : "");
            text.append(";");
        }
        while (text.length() > 1000) {
            text.setLength(text.lastIndexOf(";", text.length() - 2) + 1);
        }
        return text.toString();
    }

    /** A setup with one to three small faults, or none that counts. */
    private String spoiled(String setup) {
        StringBuilder text = new StringBuilder(setup);
        String[] parts = {"seat", "ticket", "family", "window", "ahead", "row", "sweets", "stop", "train", "first",
            "0", "00", "1", "01", "9", "10", "39", "40", "99", "100", "+", "-", ";", " ", "\n", "a", "abcdef", "A",
            "", "\t", "\u0000", "\u00ff", "7;", "seat 3 bob;", "seats"};
        int faults = random.nextInt(4);
        for (int i = 0; i < faults; i++) {
            int place = random.nextInt(text.length() + 1);
            int behind = Math.min(text.length(), place + random.nextInt(4));
            text.replace(place, behind, parts[random.nextInt(parts.length)]);
            if (random.nextInt(8) == 0) {
                text.setLength(random.nextInt(text.length() + 1));
            }
        }
        text.setLength(Math.min(text.length(), 1000));
        return text.toString();
    }

    private void change() {
        switch (random.nextInt(22)) {
            case 0: case 1: case 2: come(); break;
            case 3: case 4: set(); break;
            case 5: int f = upTo(m.value(0)); same("first", x.first(f), m.first(f)); break;
            case 6: case 7: case 8: case 9: swap(); break;
            case 10: case 11: case 12: move(); break;
            case 13: case 14: ring(); break;
            case 15: same("settle", x.settle(), m.settle()); break;
            case 16: station(); break;
            case 17: int k = upTo(1); same("keep", x.keep(k), m.keep(k)); break;
            case 18: int r = upTo(1); same("restore", x.restore(r), m.restore(r)); break;
            case 19: case 20: undo(); break;
            default: rare(); break;
        }
    }

    private void undo() {
        int many = 1 + random.nextInt(random.nextInt(4) == 0 ? 10 : 2);
        for (int i = 0; i < many; i++) {
            same("undo", x.undo(), m.undo());
        }
    }

    private void rare() {
        switch (random.nextInt(8)) {
            case 0: load(setupText()); break;
            case 1: load(spoiled(setupText())); break;
            case 2:
                int n = upTo(m.tapeText().length());
                same("truncate " + n, x.truncate(n), m.truncate(n));
                break;
            default:
                int a = random.nextInt();
                same("append", x.append(a, -a, a * 31, 0, -1), m.append(a, -a, a * 31, 0, -1));
                emptyTape();
                break;
        }
    }

    private void come() {
        emptyTape();
        String[] odd = {"", "seat", "train", "first", "ahead", "row", "stop", "abcdef", "a b", "Abc", "ticket", "a ",
            " a", "a1"};
        put(random.nextInt(8) == 0 ? odd[random.nextInt(odd.length)] : name());
        int seat = seat();
        int ticket = upTo(1);
        int family = random.nextInt(3) == 0 ? upTo(9) : random.nextInt(3);
        int sweets = random.nextInt(8) == 0 ? upTo(99) : random.nextInt(100);
        int stop = random.nextInt(8) == 0 ? upTo(99) : 1 + random.nextInt(99);
        same("come", x.come(seat, ticket, family, sweets, stop), m.come(seat, ticket, family, sweets, stop));
    }

    private void set() {
        int t = traveller();
        int what = upTo(4);
        int number = random.nextInt(9) == 0 ? odd(9) : what == 2 ? valid(0, m.value(0) - 1)
            : what == 3 ? valid(0, 3) : what == 4 ? valid(0, 1) : valid(-10, 10);
        same("set " + t + " " + what + " " + number, x.set(t, what, number), m.set(t, what, number));
    }

    private void swap() {
        int a = traveller();
        int b = traveller();
        int sweets = random.nextInt(3) == 0 ? 0 : upTo(9);
        for (int i = 0; i < 8 && m.leastPrice(a, b) < 0; i++) {
            a = traveller();
            b = traveller();
        }
        if (random.nextInt(4) > 0 && m.leastPrice(a, b) >= 0) {
            sweets = m.leastPrice(a, b);
        }
        same("why", x.why(a, b, sweets), m.why(a, b, sweets));
        same("swap " + a + " " + b + " " + sweets, x.swap(a, b, sweets), m.swap(a, b, sweets));
    }

    private void move() {
        int t = traveller();
        int seat = random.nextBoolean() ? seat() : m.bestSeat(t);
        same("whyMove", x.whyMove(t, seat), m.whyMove(t, seat));
        same("move " + t + " " + seat, x.move(t, seat), m.move(t, seat));
    }

    private void ring() {
        for (int i = 0; i < 12; i++) {
            int a = traveller();
            int b = traveller();
            int c = traveller();
            int want = m.ring(a, b, c);
            same("ring " + a + " " + b + " " + c, x.ring(a, b, c), want);
            if (want >= 0) {
                break;
            }
        }
    }

    private void station() {
        int many = random.nextInt(5) == 0 ? upTo(50) : 1 + random.nextInt(4);
        same("station " + many, x.station(many), m.station(many));
    }

    private void look(int many) {
        for (int i = 0; i < many; i++) {
            lookOnce(random.nextInt(23));
        }
    }

    private void lookOnce(int which) {
        int a = traveller();
        int b = traveller();
        int what = upTo(11);
        int few = upTo(3);
        switch (which) {
            case 0: case 1: int v = upTo(16); same("value " + v, x.value(v), m.value(v)); break;
            case 2: case 3: same("of " + a + " " + what, x.of(a, what), m.of(a, what)); break;
            case 4: same("letter", x.letter(a, upToSame(5)), m.letter(a, last)); break;
            case 5: same("at", x.at(same(seat())), m.at(last)); break;
            case 6: same("table " + few, x.table(same(upTo(4)), few), m.table(last, few)); break;
            case 7: same("family " + few, x.family(same(upTo(9)), few), m.family(last, few)); break;
            case 8: same("ranked", x.ranked(same(upTo(20))), m.ranked(last)); break;
            case 9: same("why", x.why(a, b, same(upTo(9))), m.why(a, b, last)); break;
            case 10: same("whyMove", x.whyMove(a, same(seat())), m.whyMove(a, last)); break;
            case 11: same("joyAt", x.joyAt(a, same(seat())), m.joyAt(a, last)); break;
            case 12: same("ifSwapped " + few, x.ifSwapped(a, b, few), m.ifSwapped(a, b, few)); break;
            case 13: same("leastPrice", x.leastPrice(a, b), m.leastPrice(a, b)); break;
            case 14: same("bestSeat", x.bestSeat(a), m.bestSeat(a)); break;
            case 15: same("partner", x.partner(a), m.partner(a)); break;
            case 16: if (random.nextInt(6) == 0) { same("rings", x.rings(), m.rings()); } break;
            case 17: if (random.nextInt(3) == 0) { same("ifSettled", x.ifSettled(few), m.ifSettled(few)); } break;
            case 18: same("ifFirst", x.ifFirst(same(upTo(10))), m.ifFirst(last)); break;
            case 19: same("log " + few, x.log(same(upTo(41)), few), m.log(last, few)); break;
            case 20: same("full", x.full(), m.full()); same("meanJoy", x.meanJoy(), m.meanJoy()); break;
            case 21: same("planLength", x.planLength(), m.planLength());
                same("planByte", x.planByte(same(upTo(m.planLength()))), m.planByte(last)); break;
            default: same("setupLength", x.setupLength(), m.setupLength());
                same("setupByte", x.setupByte(same(upTo(m.setupLength()))), m.setupByte(last)); break;
        }
    }

    private int last;

    private int same(int argument) {
        last = argument;
        return argument;
    }

    private int upToSame(int most) {
        return same(upTo(most));
    }
}
