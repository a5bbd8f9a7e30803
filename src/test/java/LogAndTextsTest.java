/** Promises 34 to 40: log, full, meanJoy, planLength, planByte, setupLength, setupByte. */
public final class LogAndTextsTest {
    private static final Check CHECK = new Check("LogAndTextsTest");
    private static final int MAX = Integer.MAX_VALUE;
    private static final int MIN = Integer.MIN_VALUE;

    public static void main(String[] args) {
        promise34Log();
        promise34Forty();
        promise35Full();
        promise36MeanJoy();
        promise37And38Plan();
        promise39And40Setup();
        promise39Sweets();
        CHECK.end();
    }

    private static void entry(SeatSwap x, int i, int kind, int one, int two) {
        CHECK.due("34: kind of " + i, x.log(i, 0), kind);
        CHECK.due("34: first number of " + i, x.log(i, 1), one);
        CHECK.due("34: second number of " + i, x.log(i, 2), two);
    }

    private static void promise34Log() {
        SeatSwap x = Texts.loaded("train 4 first 1;");
        CHECK.due("34: empty", x.log(0, 0), SeatSwap.NOT_FOUND);
        Texts.come(x, "a", 4, 0, 0, 5, 99);
        Texts.come(x, "b", 5, 0, 0, 5, 1);
        Texts.come(x, "c", 6, 0, 0, 5, 99);
        x.set(1, 0, 4);
        x.swap(1, 0, 4);
        x.move(2, 9);
        x.ring(2, 0, 1);
        x.ring(2, 1, 0);
        x.first(0);
        x.set(2, 0, 9);
        x.settle();
        x.station(1);
        entry(x, 0, 0, 0, 4);
        entry(x, 1, 0, 1, 5);
        entry(x, 2, 0, 2, 6);
        entry(x, 3, 6, 10, 0);
        entry(x, 4, 1, 100, 4);
        entry(x, 5, 2, 2, 6);
        entry(x, 6, 7, 0, 1);
        entry(x, 7, 6, 20, 0);
        entry(x, 8, 4, 1, 4);
        CHECK.due("34: entries", x.value(15), 9);
        CHECK.due("34: not so many", x.log(9, 0), SeatSwap.NOT_FOUND);
        CHECK.due("34: far above", x.log(MAX, 2), SeatSwap.NOT_FOUND);
        CHECK.due("34: below", x.log(-1, 0), SeatSwap.INVALID);
        CHECK.due("34: far below", x.log(MIN, 0), SeatSwap.INVALID);
        CHECK.due("34: what below", x.log(0, -1), SeatSwap.INVALID);
        CHECK.due("34: what above", x.log(0, 3), SeatSwap.INVALID);
        CHECK.due("34: what before not found", x.log(99, 3), SeatSwap.INVALID);
        x.keep(0);
        x.restore(0);
        CHECK.due("34: restore has no entry", x.value(15), 9);
        x.undo();
        x.undo();
        CHECK.due("34: undone", x.value(15), 8);
    }

    private static void promise34Forty() {
        SeatSwap x = Texts.loaded("train 10 first 0;seat 0 a;");
        for (int i = 1; i <= 95; i++) {
            x.move(0, i % 40);
            int many = Math.min(i, 40);
            CHECK.due("34: entries", x.value(15), many);
            CHECK.due("34: the latest one", x.log(many - 1, 2), (i - 1) % 40);
            CHECK.due("34: the oldest one", x.log(0, 2), (i - many) % 40);
        }
        CHECK.due("34: forty", x.log(39, 0), 2);
        CHECK.due("34: no more", x.log(40, 0), SeatSwap.NOT_FOUND);
        CHECK.due("17: moves", x.value(9), 95);
        x.undo();
        CHECK.due("34: what was pushed out comes back", x.log(0, 2), (95 - 41) % 40);
        CHECK.due("34: forty", x.value(15), 40);
    }

    private static void promise35Full() {
        SeatSwap x = new SeatSwap();
        CHECK.dueNumber("35: none", x.full(), 0.0f);
        Texts.come(x, "a", 4, 0, 0, 0, 1);
        CHECK.dueNumber("35: one of 16", x.full(), 0.0625f);
        x = Texts.loaded("train 3 first 0;seat 0 a;");
        CHECK.dueNumber("35: one of 12", x.full(), 1.0f / 12.0f);
        x = Texts.loaded("train 2 first 0;seat 0 a;seat 1 a;seat 2 a;seat 3 a;seat 4 a;seat 5 a;seat 6 a;seat 7 a;");
        CHECK.dueNumber("35: all", x.full(), 1.0f);
    }

    private static void promise36MeanJoy() {
        SeatSwap x = new SeatSwap();
        CHECK.dueNumber("36: nobody", x.meanJoy(), 0.0);
        x = Texts.loaded("train 4 first 0;seat 0 a window +1;seat 1 b;seat 2 c;");
        CHECK.dueNumber("36: a third", x.meanJoy(), 1.0 / 3.0);
        CHECK.dueNumber("36: one", Texts.loaded("train 4 first 0;seat 0 a window +7;").meanJoy(), 7.0);
        x = Texts.loaded("train 4 first 0;seat 0 a window -5;seat 1 b;");
        CHECK.dueNumber("36: below 0", x.meanJoy(), -2.5);
        x = Texts.loaded("train 4 first 0;seat 0 a window -5;seat 3 b window +5;");
        CHECK.dueNumber("36: 0", x.meanJoy(), 0.0);
    }

    private static void promise37And38Plan() {
        SeatSwap x = Texts.loaded("train 3 first 2;seat 0 anna ticket;seat 3 bo ticket window -1;seat 6 z ticket;"
            + "seat 9 yy ahead -5 row 1 1;seat 11 c family 1;");
        String due = "=<a..B\n=>..z.\n-<.Y.c\n";
        CHECK.due("37: length", x.planLength(), 21);
        CHECK.dueText("38: plan", Texts.plan(x), due);
        CHECK.due("38: behind", x.planByte(21), SeatSwap.NOT_FOUND);
        CHECK.due("38: far behind", x.planByte(MAX), SeatSwap.NOT_FOUND);
        CHECK.due("38: below", x.planByte(-1), SeatSwap.INVALID);
        CHECK.due("38: far below", x.planByte(MIN), SeatSwap.INVALID);
        CHECK.due("38: line feed", x.planByte(6), 10);
        for (int rows = 2; rows <= 10; rows++) {
            CHECK.due("37: length", Texts.loaded("train " + rows + " first 0;").planLength(), 7 * rows);
        }
        CHECK.dueText("38: a new one", Texts.plan(new SeatSwap()), "=<....\n->....\n-<....\n->....\n");
        x.set(1, 0, 0);
        CHECK.due("38: who has a joy of 0 does not grumble", x.planByte(5), 'b');
    }

    private static void setup(String text, String due) {
        SeatSwap x = Texts.loaded(text);
        CHECK.dueText("40: setup", Texts.setup(x), due);
        CHECK.due("39: length", x.setupLength(), due.length());
        CHECK.due("40: behind", x.setupByte(due.length()), SeatSwap.NOT_FOUND);
        CHECK.due("40: far behind", x.setupByte(MAX), SeatSwap.NOT_FOUND);
        CHECK.due("40: below", x.setupByte(-1), SeatSwap.INVALID);
        CHECK.due("40: NOT_FOUND as a position", x.setupByte(-2), SeatSwap.INVALID);
        CHECK.due("40: far below", x.setupByte(MIN), SeatSwap.INVALID);
    }

    private static void promise39And40Setup() {
        setup("train 10 first 10 ;\n", "train 10 first 10;");
        setup("train 02 first 00;seat 01 a;", "train 2 first 0;seat 1 a;");
        setup("train 4 first 1;seat 15 z row 0 1 stop 98;seat 0 ab ticket row 1 0 stop 99;",
            "train 4 first 1;seat 15 z row 0 1 stop 98;seat 0 ab ticket row 1 0;");
        setup("train 4 first 0;seat 1 a window + 3 ahead - 4;seat 2 b window -3 ahead +4 sweets 09;",
            "train 4 first 0;seat 1 a window +3 ahead -4;seat 2 b window -3 ahead +4 sweets 9;");
        setup("train 4 first 0;seat 1 zzzzz ticket family 9 window +9 ahead +9 row 3 3 sweets 99 stop 1;",
            "train 4 first 0;seat 1 zzzzz ticket family 9 window +9 ahead +9 row 3 3 sweets 99 stop 1;");
        setup("train 4 first 0;seat 1 a window +1 ahead -1;", "train 4 first 0;seat 1 a window +1 ahead -1;");
        setup("train 4 first 0;seat 1 a sweets 10 stop 10;", "train 4 first 0;seat 1 a sweets 10 stop 10;");
        SeatSwap x = Texts.loaded("train 4 first 0;seat 8 a stop 1;seat 9 b;");
        x.station(1);
        CHECK.dueText("40: by numbers, without the time", Texts.setup(x), "train 4 first 0;seat 9 b;");
    }

    private static void promise39Sweets() {
        SeatSwap x = Texts.loaded("train 4 first 0;seat 5 a window +9 sweets 99;seat 4 b sweets 99;");
        x.swap(0, 1, 9);
        CHECK.dueText("40: sweets above 99", Texts.setup(x),
            "train 4 first 0;seat 4 a window +9 sweets 90;seat 5 b sweets 108;");
        // Eleven pay nine sweets ten times each to the one at the window, whom they bring back there.
        StringBuilder many = new StringBuilder("train 10 first 0;seat 0 rich sweets 99;");
        for (int payer = 1; payer <= 11; payer++) {
            many.append("seat ").append(4 * (payer / 2) + 1 + payer % 2).append(" p sweets 99;");
        }
        SeatSwap y = Texts.loaded(many.toString());
        for (int payer = 1; payer <= 11; payer++) {
            for (int i = 0; i < 10; i++) {
                y.set(payer, 0, i % 2 == 0 ? 9 : -9);
                CHECK.due("9: pays", y.swap(payer, 0, 9), 109);
            }
        }
        CHECK.due("18: sweets", y.of(0, 7), 1089);
        CHECK.due("17: paid", y.value(11), 990);
        CHECK.due("17: swaps", y.value(8), 110);
        String due = "train 10 first 0;seat 0 rich sweets 1089;seat 2 p window -9 sweets 9;";
        for (int i = 0; i < due.length(); i++) {
            CHECK.due("40: byte " + i, y.setupByte(i), due.charAt(i));
        }
    }
}
