/** Promises 24 to 33: why, whyMove, joyAt, ifSwapped, leastPrice, bestSeat, partner, rings, ifSettled, ifFirst. */
public final class WhatWouldBeTest {
    private static final Check CHECK = new Check("WhatWouldBeTest");
    private static final int MAX = Integer.MAX_VALUE;
    private static final int MIN = Integer.MIN_VALUE;

    public static void main(String[] args) {
        promise24Why();
        promise25WhyMove();
        promise26JoyAt();
        promise27IfSwapped();
        promise28LeastPrice();
        promise29BestSeat();
        promise30Partner();
        promise31Rings();
        promise32IfSettled();
        promise33IfFirst();
        nothingChanges();
        CHECK.end();
    }

    private static void promise24Why() {
        SeatSwap x = Texts.loaded("train 4 first 1;seat 0 a ticket window -9;seat 5 b window +3 sweets 3;"
            + "seat 4 c window +2 sweets 2;seat 6 d ticket window +9 sweets 1;");
        CHECK.due("24: ticket", x.why(1, 0, 0), 1);
        CHECK.due("24: the other one's ticket", x.why(0, 1, 0), 1);
        CHECK.due("24: ticket first", x.why(1, 0, 9), 1);
        CHECK.due("24: sweets", x.why(1, 2, 4), 2);
        CHECK.due("24: as many sweets as there are", x.why(1, 2, 3), 0);
        CHECK.due("24: as many as the other one wants", x.why(1, 2, 2), 0);
        CHECK.due("24: the other one", x.why(1, 2, 1), 4);
        CHECK.due("24: the asker", x.why(2, 1, 0), 3);
        CHECK.due("24: the asker before the other one", x.why(2, 1, 1), 3);
        CHECK.due("24: none", x.why(3, 0, 0), 0);
        CHECK.due("24: none, asked by the other", x.why(0, 3, 0), 0);
        CHECK.due("24: twice the same", x.why(1, 1, 0), SeatSwap.INVALID);
        CHECK.due("24: sweets below", x.why(0, 1, -1), SeatSwap.INVALID);
        CHECK.due("24: sweets above", x.why(0, 1, 10), SeatSwap.INVALID);
        CHECK.due("24: traveller", x.why(4, 1, 0), SeatSwap.INVALID);
        CHECK.due("24: traveller", x.why(1, 4, 0), SeatSwap.INVALID);
        CHECK.due("24: traveller", x.why(MIN, 1, 0), SeatSwap.INVALID);
    }

    private static void promise25WhyMove() {
        SeatSwap x = Texts.loaded("train 4 first 1;seat 4 a window +1;seat 6 b ticket ahead -1;");
        int[] a = {1, 1, 1, 1, 5, 6, 5, 0, 0, 6, 6, 0, 0, 6, 6, 0};
        int[] b = {0, 0, 0, 0, 5, 0, 5, 0, 0, 0, 0, 0, 0, 0, 0, 0};
        for (int seat = 0; seat < 16; seat++) {
            CHECK.due("25: whyMove 0 " + seat, x.whyMove(0, seat), a[seat]);
            CHECK.due("25: whyMove 1 " + seat, x.whyMove(1, seat), b[seat]);
        }
        CHECK.due("25: seat below", x.whyMove(0, -1), SeatSwap.INVALID);
        CHECK.due("25: seat above", x.whyMove(0, 16), SeatSwap.INVALID);
        CHECK.due("25: traveller", x.whyMove(2, 0), SeatSwap.INVALID);
        CHECK.due("25: traveller", x.whyMove(-1, 0), SeatSwap.INVALID);
    }

    private static void promise26JoyAt() {
        SeatSwap x = Texts.loaded("train 4 first 2;seat 0 a ticket family 1;seat 8 b family 1 window +2;"
            + "seat 9 c family 1;");
        CHECK.due("26: its own seat", x.joyAt(1, 8), 106);
        CHECK.due("26: a free seat at its table", x.joyAt(1, 10), 104);
        CHECK.due("26: with who has it", x.joyAt(1, 9), 104);
        CHECK.due("26: with who has it at another table, whatever the ticket", x.joyAt(1, 0), 106);
        CHECK.due("26: two at the other table", x.joyAt(0, 8), 108);
        CHECK.due("26: seat", x.joyAt(0, 16), SeatSwap.INVALID);
        CHECK.due("26: seat", x.joyAt(0, -1), SeatSwap.INVALID);
        CHECK.due("26: seat", x.joyAt(0, MAX), SeatSwap.INVALID);
        CHECK.due("26: traveller", x.joyAt(3, 0), SeatSwap.INVALID);
        CHECK.due("26: traveller", x.joyAt(-1, 0), SeatSwap.INVALID);
        SeatSwap low = Texts.loaded("train 10 first 0;seat 0 a window -9 ahead -9 row 0 3;");
        CHECK.due("26: the least", low.joyAt(0, 39), 55);
    }

    private static void promise27IfSwapped() {
        SeatSwap x = Texts.loaded("train 4 first 1;seat 0 a ticket family 1 window -2;seat 13 b ahead -5;"
            + "seat 12 c family 1;seat 14 d family 1;");
        CHECK.due("27: asker", x.ifSwapped(0, 1, 0), 110);
        CHECK.due("27: other, though refused", x.ifSwapped(0, 1, 1), 105);
        CHECK.due("27: the sum of all, others too", x.ifSwapped(0, 1, 2), 1024);
        CHECK.due("27: the other way round", x.ifSwapped(1, 0, 0), 105);
        CHECK.due("27: the other way round", x.ifSwapped(1, 0, 1), 110);
        CHECK.due("27: the sum is the same", x.ifSwapped(1, 0, 2), 1024);
        CHECK.due("27: less", x.ifSwapped(2, 0, 0), 96);
        CHECK.due("27: below 1000", Texts.loaded("train 4 first 0;seat 1 a window -3;seat 0 b;").ifSwapped(0, 1, 2),
            997);
        CHECK.due("27: what below", x.ifSwapped(0, 1, -1), SeatSwap.INVALID);
        CHECK.due("27: what above", x.ifSwapped(0, 1, 3), SeatSwap.INVALID);
        CHECK.due("27: twice the same", x.ifSwapped(2, 2, 0), SeatSwap.INVALID);
        CHECK.due("27: traveller", x.ifSwapped(4, 2, 0), SeatSwap.INVALID);
        CHECK.due("27: traveller", x.ifSwapped(2, 4, 0), SeatSwap.INVALID);
        CHECK.due("27: traveller", x.ifSwapped(-1, 2, 0), SeatSwap.INVALID);
    }

    private static void promise28LeastPrice() {
        SeatSwap x = Texts.loaded("train 4 first 0;seat 5 a window +9 sweets 99;seat 4 b window +3;"
            + "seat 7 c window +9;seat 8 d;seat 1 e window +9 sweets 2;");
        CHECK.due("28: what the other one loses", x.leastPrice(0, 1), 3);
        CHECK.due("28: nine", x.leastPrice(0, 2), 9);
        CHECK.due("28: nothing", x.leastPrice(0, 3), 0);
        CHECK.due("28: too few sweets", x.leastPrice(4, 1), SeatSwap.NOT_FOUND);
        CHECK.due("28: no joy", x.leastPrice(1, 0), SeatSwap.NOT_FOUND);
        CHECK.due("28: no difference", x.leastPrice(0, 4), 0);
        CHECK.due("28: twice the same", x.leastPrice(0, 0), SeatSwap.INVALID);
        CHECK.due("28: traveller", x.leastPrice(5, 0), SeatSwap.INVALID);
        CHECK.due("28: traveller", x.leastPrice(0, 5), SeatSwap.INVALID);
        CHECK.due("28: traveller", x.leastPrice(-1, 0), SeatSwap.INVALID);
        SeatSwap y = Texts.loaded("train 4 first 0;seat 1 a window +9 ahead +9 sweets 99;seat 4 b window +5 ahead +5;");
        CHECK.due("28: ten would be too many", y.leastPrice(0, 1), SeatSwap.NOT_FOUND);
    }

    private static void promise29BestSeat() {
        SeatSwap x = Texts.loaded("train 4 first 1;seat 5 a window +2 row 3 1;seat 12 b;seat 6 c ticket row 0 3;"
            + "seat 0 d ticket;seat 9 e family 1;seat 10 f family 1;");
        CHECK.due("29: best of the free ones", x.bestSeat(0), 15);
        CHECK.due("29: smallest of the same joy", x.bestSeat(1), 4);
        CHECK.due("29: with a ticket", x.bestSeat(2), 1);
        CHECK.due("29: a free seat for nothing more", x.bestSeat(3), 1);
        CHECK.due("29: with the family", x.bestSeat(4), 8);
        CHECK.due("29: traveller", x.bestSeat(6), SeatSwap.INVALID);
        CHECK.due("29: traveller", x.bestSeat(-1), SeatSwap.INVALID);
        SeatSwap y = Texts.loaded("train 2 first 0;seat 0 a window +2 ahead -2;seat 3 b;");
        CHECK.due("29: none is as good", y.bestSeat(0), SeatSwap.NOT_FOUND);
        CHECK.due("29: less than 0 may be best", Texts.loaded("train 2 first 0;seat 0 a window -5 ahead +1 row 1 3;"
            + "seat 5 b;seat 6 c;").bestSeat(0), 1);
        SeatSwap low = Texts.loaded("train 10 first 0;seat 36 a window -9 row 0 3;seat 1 b;seat 2 c;");
        CHECK.due("29: joys below 0", low.bestSeat(0), 5);
        SeatSwap grumble = Texts.loaded("train 2 first 1;seat 4 a window -3 ahead -3;seat 5 b;seat 6 c;");
        CHECK.due("29: all of them below 0", grumble.bestSeat(0), 7);
        CHECK.due("29: the first seat", Texts.loaded("train 2 first 0;seat 1 a window +1;").bestSeat(0), 0);
        CHECK.due("29: the last seat", Texts.loaded("train 2 first 0;seat 1 a window +1 row 1 1;seat 4 b;").bestSeat(0),
            7);
    }

    private static void promise30Partner() {
        SeatSwap x = Texts.loaded("train 4 first 1;seat 5 a window +2 ahead -1;seat 4 b;seat 7 c;seat 8 d;"
            + "seat 0 e ticket;seat 11 f window +1;seat 12 g family 1;");
        CHECK.due("30: most", x.partner(0), 3);
        CHECK.due("30: nobody", x.partner(1), SeatSwap.NOT_FOUND);
        CHECK.due("30: not with 0 more", x.partner(6), SeatSwap.NOT_FOUND);
        CHECK.due("30: traveller", x.partner(7), SeatSwap.INVALID);
        CHECK.due("30: traveller", x.partner(-1), SeatSwap.INVALID);
        x.set(0, 1, 0);
        CHECK.due("30: of several the smallest", x.partner(0), 1);
        SeatSwap y = Texts.loaded("train 4 first 0;seat 5 a window +9 sweets 99;seat 4 b window +1;");
        CHECK.due("30: for nothing alone", y.partner(0), SeatSwap.NOT_FOUND);
        SeatSwap z = Texts.loaded("train 4 first 0;seat 4 b window -1;seat 5 a;");
        CHECK.due("30: one more", z.partner(0), 1);
        CHECK.due("30: the other has none", z.partner(1), SeatSwap.NOT_FOUND);
        SeatSwap first = Texts.loaded("train 4 first 0;seat 4 b;seat 5 a window +1;");
        CHECK.due("30: the first traveller", first.partner(1), 0);
    }

    private static void promise31Rings() {
        CHECK.due("31: nobody", new SeatSwap().rings(), 0);
        SeatSwap x = Texts.loaded("train 4 first 0;seat 1 a window +1;seat 0 b;seat 2 c;");
        CHECK.due("31: one way", x.rings(), 1);
        x = Texts.loaded("train 4 first 0;seat 1 a window +1;seat 0 b;seat 3 c;");
        CHECK.due("31: both ways", x.rings(), 2);
        x = Texts.loaded("train 4 first 0;seat 1 a window +1;seat 0 b;");
        CHECK.due("31: two are too few", x.rings(), 0);
        x = Texts.loaded("train 4 first 0;seat 1 a window +1;seat 0 b;seat 2 c;seat 5 d;");
        CHECK.due("31: four", x.rings(), 2);
        x = Texts.loaded("train 4 first 1;seat 5 a;seat 6 b window +1;seat 4 c;seat 0 d ticket;");
        CHECK.due("31: tickets", x.rings(), 1);
        x = Texts.loaded("train 4 first 0;seat 4 a window +2;seat 5 b window +9;seat 1 c;");
        CHECK.due("31: nobody may lose", x.rings(), 0);
        x = Texts.loaded("train 4 first 0;seat 1 a family 1;seat 10 b;seat 9 c;seat 12 d family 1;");
        CHECK.due("31: the three alone count", x.rings(), 4);
    }

    private static void promise32IfSettled() {
        SeatSwap x = Texts.loaded("train 4 first 0;seat 1 a window +3;seat 0 b window -1;seat 2 c ahead -1;"
            + "seat 4 d ahead -2;seat 5 e window -1 row 3 3;");
        String before = Texts.state(x);
        CHECK.due("32: swaps", x.ifSettled(0), 2);
        CHECK.due("32: sum", x.ifSettled(1), 10000 + 3 - 6);
        CHECK.due("32: grumblers", x.ifSettled(2), 1);
        CHECK.due("32: below", x.ifSettled(-1), SeatSwap.INVALID);
        CHECK.due("32: above", x.ifSettled(3), SeatSwap.INVALID);
        CHECK.due("32: far above", x.ifSettled(MAX), SeatSwap.INVALID);
        CHECK.dueText("32: nothing changes", Texts.state(x), before);
        CHECK.due("12: as told", x.settle(), 2);
        CHECK.due("12: as told", x.value(5), 9997);
        CHECK.due("12: as told", x.value(6), 1);
        CHECK.due("32: settled", x.ifSettled(0), 0);
        CHECK.due("32: settled", x.ifSettled(1), 9997);
        CHECK.due("32: settled", x.ifSettled(2), 1);
    }

    private static void promise33IfFirst() {
        SeatSwap x = Texts.loaded("train 4 first 1;seat 0 a ticket;seat 4 b;seat 7 c;seat 8 d ticket;seat 15 e;");
        int[] due = {0, 0, 2, 2, 3};
        for (int first = 0; first <= 4; first++) {
            CHECK.due("33: ifFirst " + first, x.ifFirst(first), due[first]);
        }
        CHECK.due("33: below", x.ifFirst(-1), SeatSwap.INVALID);
        CHECK.due("33: above", x.ifFirst(5), SeatSwap.INVALID);
        CHECK.due("33: far above", x.ifFirst(MAX), SeatSwap.INVALID);
        CHECK.due("33: nothing changes", x.value(1), 1);
        SeatSwap y = Texts.loaded("train 4 first 0;seat 0 a;seat 15 b;");
        CHECK.due("33: the first traveller", y.ifFirst(1), 1);
        CHECK.due("33: the last traveller too", y.ifFirst(4), 2);
    }

    private static void nothingChanges() {
        SeatSwap x = Texts.loaded("train 4 first 1;seat 5 a family 1 window +2;seat 4 b family 2;seat 12 c family 1;"
            + "seat 13 d family 2 window +1;seat 0 e ticket;");
        x.keep(0);
        x.set(0, 1, 1);
        String before = Texts.state(x);
        for (int a = 0; a < 5; a++) {
            for (int b = 0; b < 5; b++) {
                x.why(a, b, 1);
                x.ifSwapped(a, b, 2);
                x.leastPrice(a, b);
            }
            x.bestSeat(a);
            x.partner(a);
            x.joyAt(a, a);
            x.whyMove(a, 9);
        }
        x.rings();
        x.ifSettled(1);
        x.ifFirst(2);
        CHECK.dueText("24 to 33: nothing changes", Texts.state(x), before);
        CHECK.due("24 to 33: no operation", x.value(16), 1);
    }
}
