/** What an object can be brought to in the 512 calls for which it is used; no run here makes more of them. */
public final class LongRunsTest {
    public static void main(String[] args) {
        Edges edges = new Edges();
        list(edges);
        edges.run("LongRunsTest");
    }

    static void list(Edges e) {
        e.at("what");
        e.says("An object is used for at most 512 calls after it has been made; what later calls answer is free.",
            c -> {
            moves(c);
            undone(c);
            stations(c);
            comings(c);
            slots(c);
            tapes(c);
            settlings(c);
        });
        e.at("term 2");
        e.says("SWEETS (0 to 99)", LongRunsTest::rich);
    }

    /** 3 calls, 500 moves, and questions. */
    private static void moves(Check c) {
        SeatSwap x = new SeatSwap();
        Texts.come(x, "a", 4, 1, 0, 0, 99);
        for (int i = 1; i <= 500; i++) {
            c.due("move " + i, x.move(0, (4 + i) % 16), 0);
        }
        c.due("moves", x.value(9), 500);
        c.due("entries", x.value(15), 40);
        c.due("operations", x.value(16), 8);
        c.due("oldest entry", x.log(0, 2), (4 + 460) % 16);
        c.due("latest entry", x.log(39, 2), (4 + 499) % 16);
        c.due("no more", x.log(40, 2), SeatSwap.NOT_FOUND);
        c.due("undo", x.undo(), 7);
        c.due("moves", x.value(9), 499);
        c.due("oldest entry", x.log(0, 2), (4 + 459) % 16);
    }

    /** 250 times an operation and an undo, then eight operations and their undoing. */
    private static void undone(Check c) {
        SeatSwap x = new SeatSwap();
        for (int i = 0; i < 240; i++) {
            c.due("first", x.first(i % 2 == 0 ? 4 : 0), 1);
            c.due("undo", x.undo(), 0);
        }
        for (int i = 0; i < 9; i++) {
            c.due("first", x.first(i % 2 == 0 ? 4 : 0), i == 0 ? 1 : i % 2 == 0 ? 0 : 4);
        }
        for (int left = 7; left >= 0; left--) {
            c.due("undo", x.undo(), left);
        }
        c.due("no more", x.undo(), SeatSwap.INVALID);
        c.due("the oldest is forgotten", x.value(1), 4);
        c.due("its entry stays", x.log(0, 2), 1);
        c.due("entries", x.value(15), 1);
    }

    /** Up to the greatest time, one station a call where that is possible. */
    private static void stations(Check c) {
        SeatSwap x = new SeatSwap();
        for (int i = 1; i <= 490; i++) {
            c.due("station", x.station(1), 0);
        }
        for (int i = 1; i <= 10; i++) {
            c.due("station", x.station(50), 0);
        }
        c.due("time", x.value(2), 990);
        c.due("above 999", x.station(10), SeatSwap.FULL);
        c.due("999", x.station(9), 0);
        c.due("above 999", x.station(1), SeatSwap.FULL);
        c.due("time", x.value(2), 999);
    }

    /** Eight times twenty travellers come, in three calls each, and get off at once. */
    private static void comings(Check c) {
        SeatSwap x = new SeatSwap();
        x.append(0x74726169, 0x6e203320, 0x66697273, 0x7420303b, 0x20202020);
        c.due("load", x.load(), 0);
        x.append(0x74726169, 0x6e203520, 0x66697273, 0x7420303b, 0x20202020);
        c.due("load", x.load(), 0);
        for (int train = 1; train <= 8; train++) {
            for (int t = 0; t < 20; t++) {
                Texts.put(x, "" + (char) ('a' + t));
                c.due("comes", x.come(19 - t, 0, t % 10, 99, train), t);
            }
            c.due("get off", x.station(1), 20);
        }
        c.due("travellers", x.value(3), 0);
        c.due("got off", x.value(12), 160);
        c.due("families", x.value(14), 0);
        c.due("entries", x.value(15), 40);
        c.dueText("the latest one", EdgesOfExchangesTest.entry(x, 39), "4/0/19");
        c.dueText("the first one of the train", EdgesOfExchangesTest.entry(x, 0), "0/0/19");
    }

    /** Slots are kept and restored 300 times. */
    private static void slots(Check c) {
        SeatSwap x = new SeatSwap();
        Texts.come(x, "a", 4, 1, 0, 0, 99);
        x.keep(0);
        for (int i = 0; i < 90; i++) {
            c.due("move", x.move(0, i % 2 == 0 ? 5 : 6), 0);
            c.due("keep", x.keep(1), 1);
            c.due("restore", x.restore(0), 1);
            c.due("moves", x.value(9), 0);
            c.due("restore", x.restore(1), 1);
            if (i % 2 == 0) {
                x.restore(0);
            }
        }
        c.due("moves", x.value(9), 1);
        c.due("operations", x.value(16), 8);
    }

    /** Ten times fifty calls fill the tape, and one loads it. */
    private static void tapes(Check c) {
        SeatSwap x = new SeatSwap();
        for (int load = 0; load < 10; load++) {
            for (int i = 1; i <= 50; i++) {
                int space = 0x20202020;
                c.due("append", x.append(space, space, space, space, i == 50 ? space + load : space), 20 * i);
            }
            c.due("load", x.load(), SeatSwap.INVALID);
        }
        c.due("error", x.errorPosition(), 999);
        c.due("tape", x.truncate(0), 0);
    }

    /** A settling is undone and done again. */
    private static void settlings(Check c) {
        SeatSwap x = Texts.loaded("train 4 first 0;seat 1 a window +9;seat 0 b;seat 5 d window +9;seat 4 e;");
        for (int i = 0; i < 160; i++) {
            c.due("if", x.ifSettled(0), 2);
            c.due("settle", x.settle(), 2);
            c.due("undo", x.undo(), 0);
        }
        c.due("swaps", x.value(8), 0);
        c.due("settle", x.settle(), 2);
        c.due("swaps", x.value(8), 2);
        c.due("entries", x.value(15), 1);
    }

    /** Nineteen pay all that they have, nine at a time, to one: 29 calls to load them, 23 calls each. */
    private static void rich(Check c) {
        StringBuilder text = new StringBuilder("train10first0;seat0rich sweets99;");
        for (int payer = 1; payer < 20; payer++) {
            text.append("seat").append(4 * (payer / 2) + 1 + payer % 2).append("p window+9sweets99;");
        }
        SeatSwap x = Texts.loaded(text.toString());
        for (int payer = 1; payer < 20; payer++) {
            for (int i = 0; i < 12; i++) {
                if (i > 0) {
                    x.set(payer, 0, i % 2 == 0 ? 9 : -9);
                }
                int got = x.swap(payer, 0, i < 11 ? 9 : 0);
                c.due("payer " + payer + " for the " + i + "th time", got, 109);
            }
        }
        c.due("sweets", x.of(0, 7), 1980);
        c.due("sweets of all", x.value(7), 1980);
        c.due("paid", x.value(11), 19 * 99);
        c.due("swaps", x.value(8), 19 * 12);
        String due = "train 10 first 0;seat 0 rich sweets 1980;seat 2 p window -9;";
        for (int i = 32; i < 42; i++) {
            c.due("setup text, byte " + i, x.setupByte(i), due.charAt(i));
        }
    }
}
