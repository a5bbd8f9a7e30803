/** Promises 9 to 12: swap, move, ring, settle; 24 and 25, the reasons, on the way. */
public final class ExchangesTest {
    private static final Check CHECK = new Check("ExchangesTest");
    private static final int MAX = Integer.MAX_VALUE;

    public static void main(String[] args) {
        promise9Swap();
        promise9Refusals();
        promise9Family();
        promise9Arguments();
        promise10Move();
        promise10Refusals();
        promise11Ring();
        promise11Rise();
        promise11Refusals();
        promise12Settle();
        promise12Choice();
        promise12Others();
        promise12Long();
        CHECK.end();
    }

    /** The window is worth 5 to a, who pays, and 3 to b, who has it. */
    private static SeatSwap window() {
        return Texts.loaded("train 4 first 1;seat 5 a window +5 sweets 5;seat 4 b window +3 sweets 2;");
    }

    private static void promise9Swap() {
        SeatSwap x = window();
        CHECK.due("9: too little", x.swap(0, 1, 2), -14);
        CHECK.due("9: nothing changed", x.value(16), 0);
        CHECK.due("9: just enough for the other one", x.swap(0, 1, 3), 102);
        CHECK.due("9: seat of the asker", x.of(0, 0), 4);
        CHECK.due("9: seat of the other one", x.of(1, 0), 5);
        CHECK.due("9: sweets of the asker", x.of(0, 7), 2);
        CHECK.due("9: sweets of the other one", x.of(1, 7), 5);
        CHECK.due("9: swaps", x.value(8), 1);
        CHECK.due("9: paid", x.value(11), 3);
        CHECK.due("9: kind", x.log(0, 0), 1);
        CHECK.due("9: number", x.log(0, 1), 1);
        CHECK.due("9: sweets", x.log(0, 2), 3);
        CHECK.due("9: operations", x.value(16), 1);
        SeatSwap y = window();
        CHECK.due("9: as much as it is worth", y.swap(0, 1, 5), 102);
        SeatSwap z = Texts.loaded("train 4 first 1;seat 5 a;seat 4 b sweets 7;");
        CHECK.due("9: 0 for 0", z.swap(1, 0, 0), 100);
        CHECK.due("9: number", z.log(0, 1), 100);
        CHECK.due("9: no joy for a sweet", z.swap(1, 0, 1), -13);
        SeatSwap most = Texts.loaded("train 4 first 0;seat 5 a window +9 sweets 99;seat 4 b sweets 99;");
        CHECK.due("9: nine", most.swap(0, 1, 9), 109);
        CHECK.due("9: above 99", most.of(1, 7), 108);
    }

    private static void promise9Refusals() {
        SeatSwap x = Texts.loaded("train 4 first 1;seat 0 a ticket window -9 sweets 9;seat 4 b window +9;"
            + "seat 5 c ticket window +4;seat 6 d;");
        CHECK.due("9: the ticket of the other one", x.swap(0, 1, 0), -11);
        CHECK.due("9: the ticket of the asker", x.swap(1, 0, 9), -11);
        CHECK.due("9: sweets come before joy", x.swap(3, 1, 1), -12);
        CHECK.due("9: the joy of the asker", x.swap(1, 2, 0), -13);
        CHECK.due("9: the joy of the other one", x.swap(2, 1, 0), -14);
        CHECK.due("9: sweets come first", x.swap(2, 1, 4), -12);
        CHECK.due("9: 3 before 4", x.swap(1, 0, 0), -11);
        for (int sweets = 0; sweets <= 9; sweets++) {
            CHECK.due("24: ticket first", x.why(0, 3, sweets), 1);
        }
        CHECK.due("9: both tickets, 9 sweets", x.swap(0, 2, 9), 113);
        CHECK.due("9: the only change", x.value(16), 1);
    }

    /** JOYs as they are behind the swap: who goes leaves the family at the old table. */
    private static void promise9Family() {
        SeatSwap x = Texts.loaded("train 4 first 0;seat 1 a family 1;seat 9 b family 1;seat 10 c family 1;seat 2 d;");
        CHECK.due("9: members exchange tables", x.why(0, 1, 0), 4);
        CHECK.due("28: price", x.leastPrice(0, 1), SeatSwap.NOT_FOUND);
        CHECK.due("27: asker", x.ifSwapped(0, 1, 0), 104);
        CHECK.due("27: other", x.ifSwapped(0, 1, 1), 96);
        CHECK.due("27: sum", x.ifSwapped(0, 1, 2), 1008);
        CHECK.due("26: joy at it, with all others where they are", x.joyAt(0, 9), 108);
        CHECK.due("9: a stranger's seat", x.swap(3, 0, 0), 100);
        CHECK.due("9: the table is the same", x.value(5), 10008);
        SeatSwap y = Texts.loaded("train 2 first 0;seat 1 a family 1;seat 6 b family 1;");
        CHECK.due("9: same table, same family", y.swap(0, 1, 0), 100);
        CHECK.due("9: joy", y.of(0, 9), 104);
    }

    private static void promise9Arguments() {
        SeatSwap x = window();
        int[][] bad = {{0, 0, 0}, {0, 2, 0}, {2, 0, 0}, {-1, 0, 0}, {0, -1, 0}, {0, 1, -1}, {0, 1, 10}, {MAX, 0, 0},
            {0, MAX, 0}, {0, 1, MAX}, {0, 1, Integer.MIN_VALUE}};
        for (int[] b : bad) {
            CHECK.due("9: swap " + b[0] + " " + b[1] + " " + b[2], x.swap(b[0], b[1], b[2]), SeatSwap.INVALID);
            CHECK.due("24: why " + b[0] + " " + b[1] + " " + b[2], x.why(b[0], b[1], b[2]), SeatSwap.INVALID);
        }
    }

    private static void promise10Move() {
        SeatSwap x = Texts.loaded("train 4 first 0;seat 1 a window +2 ahead +3 row 1 1;seat 2 b family 3;"
            + "seat 12 c family 3;");
        CHECK.due("10: rise", x.move(0, 7), 6);
        CHECK.due("10: seat", x.of(0, 0), 7);
        CHECK.due("10: moves", x.value(9), 1);
        CHECK.due("10: kind", x.log(0, 0), 2);
        CHECK.due("10: number", x.log(0, 1), 0);
        CHECK.due("10: former seat", x.log(0, 2), 1);
        CHECK.due("10: without a rise", x.move(0, 4), 0);
        CHECK.due("10: to the family", x.move(2, 0), 4);
        CHECK.due("10: former seat", x.log(2, 2), 12);
        CHECK.due("10: number", x.log(2, 1), 2);
        CHECK.due("10: within the table", x.move(2, 5), 0);
        CHECK.due("10: sum", x.value(5), 10013);
        CHECK.due("10: operations", x.value(16), 4);
        CHECK.due("10: at", x.at(1), SeatSwap.NOT_FOUND);
        CHECK.due("10: at", x.at(5), 2);
    }

    private static void promise10Refusals() {
        SeatSwap x = Texts.loaded("train 4 first 1;seat 4 a window +2;seat 5 b;seat 0 c ticket family 1;"
            + "seat 6 d family 1 window -9;");
        CHECK.due("10: the own seat", x.move(0, 4), -15);
        CHECK.due("10: another's seat", x.move(0, 5), -15);
        CHECK.due("10: not free before the ticket", x.move(0, 0), -15);
        CHECK.due("10: the ticket before the joy", x.move(0, 1), -11);
        CHECK.due("10: the joy", x.move(0, 6 + 3), -16);
        CHECK.due("10: away from the family", x.move(2, 8), -16);
        CHECK.due("25: own seat", x.whyMove(0, 4), 5);
        CHECK.due("25: ticket", x.whyMove(0, 1), 1);
        CHECK.due("25: joy", x.whyMove(0, 9), 6);
        CHECK.due("25: none", x.whyMove(0, 7), 0);
        CHECK.due("25: with a ticket", x.whyMove(2, 3), 0);
        int[][] bad = {{4, 1}, {-1, 1}, {0, -1}, {0, 16}, {MAX, 1}, {0, MAX}};
        for (int[] b : bad) {
            CHECK.due("10: move " + b[0] + " " + b[1], x.move(b[0], b[1]), SeatSwap.INVALID);
            CHECK.due("25: whyMove " + b[0] + " " + b[1], x.whyMove(b[0], b[1]), SeatSwap.INVALID);
        }
        CHECK.due("10: nothing changed", x.value(16), 0);
    }

    private static void promise11Ring() {
        SeatSwap x = Texts.loaded("train 4 first 0;seat 13 z;seat 0 a row 1 1;seat 4 b row 2 1;seat 8 c row 0 2;");
        CHECK.due("31: rings, two of them by z", x.rings(), 3);
        CHECK.due("11: ring", x.ring(2, 3, 1), 6);
        CHECK.due("11: a", x.of(1, 0), 4);
        CHECK.due("11: b", x.of(2, 0), 8);
        CHECK.due("11: c", x.of(3, 0), 0);
        CHECK.due("11: rings", x.value(10), 1);
        CHECK.due("11: no swaps", x.value(8), 0);
        CHECK.due("11: kind", x.log(0, 0), 3);
        CHECK.due("11: number", x.log(0, 1), 20301);
        CHECK.due("11: 0", x.log(0, 2), 0);
        CHECK.due("11: joys", x.value(5), 10000);
        CHECK.due("11: operations", x.value(16), 1);
        SeatSwap y = Texts.loaded("train 4 first 0;seat 1 a;seat 2 b;seat 5 c;");
        CHECK.due("11: without a rise", y.ring(0, 1, 2), 0);
        CHECK.due("11: seats", y.of(0, 0) * 100 + y.of(1, 0) * 10 + y.of(2, 0), 251);
        CHECK.due("11: the other way", y.ring(2, 1, 0), 0);
        CHECK.due("11: seats", y.of(0, 0) * 100 + y.of(1, 0) * 10 + y.of(2, 0), 125);
        CHECK.due("31: without a rise none counts", y.rings(), 0);
    }

    /** Joys before: 0, -5, 0; behind it: 5, -3, 7; or, the other way, 0, 7, -3. */
    private static void promise11Rise() {
        String text = "train 4 first 0;seat 0 a ahead +5;seat 4 b ahead -3 row 3 1;seat 1 c window +7;";
        CHECK.due("11: all rises together", Texts.loaded(text).ring(0, 1, 2), 14);
        CHECK.due("11: begun by the second", Texts.loaded(text).ring(1, 2, 0), 14);
        CHECK.due("11: begun by the third", Texts.loaded(text).ring(2, 0, 1), 14);
        CHECK.due("11: the other way", Texts.loaded(text).ring(0, 2, 1), 9);
        CHECK.due("31: both", Texts.loaded(text).rings(), 2);
        SeatSwap x = Texts.loaded("train 4 first 0;seat 0 a family 1;seat 1 b;seat 8 c family 1;seat 9 d family 1;");
        CHECK.due("11: who leaves is missed", x.ring(0, 2, 1), -16);
        CHECK.due("11: one goes to the family, one from it", x.ring(2, 1, 0), -16);
        SeatSwap y = Texts.loaded("train 4 first 0;seat 0 a family 1;seat 1 b;seat 8 c;seat 9 d family 1;");
        CHECK.due("11: to the family", y.ring(0, 2, 1), 4);
        CHECK.due("17: two are glad of it", y.value(5), 10008);
    }

    private static void promise11Refusals() {
        SeatSwap x = Texts.loaded("train 4 first 1;seat 0 a ticket;seat 4 b;seat 8 c ticket;seat 12 d ticket row 3 1;");
        CHECK.due("11: b would sit in the first class", x.ring(1, 0, 2), -11);
        CHECK.due("11: b as the second one", x.ring(2, 1, 0), -11);
        CHECK.due("11: b as the third one", x.ring(0, 2, 1), -11);
        CHECK.due("11: others may", x.ring(0, 1, 2), 0);
        CHECK.due("11: undo", x.undo(), 0);
        CHECK.due("11: the ticket before the joy", x.ring(1, 0, 3), -11);
        CHECK.due("11: less joy for the first", x.ring(3, 0, 2), -16);
        CHECK.due("11: less joy for the second", x.ring(0, 3, 2), -16);
        CHECK.due("11: less joy for the third", x.ring(0, 2, 3), -16);
        int[][] bad = {{0, 0, 1}, {0, 1, 0}, {1, 0, 0}, {0, 1, 4}, {0, 4, 1}, {4, 0, 1}, {-1, 0, 1}, {0, -1, 1},
            {0, 1, -1}, {MAX, 0, 1}, {0, MAX, 1}, {0, 1, MAX}, {2, 2, 2}};
        for (int[] b : bad) {
            CHECK.due("11: ring " + b[0] + " " + b[1] + " " + b[2], x.ring(b[0], b[1], b[2]), SeatSwap.INVALID);
        }
        CHECK.due("11: nothing changed", x.value(16), 0);
    }

    private static void promise12Settle() {
        SeatSwap x = new SeatSwap();
        CHECK.due("12: nobody", x.settle(), SeatSwap.NOT_FOUND);
        CHECK.due("12: no operation", x.value(16), 0);
        x = Texts.loaded("train 4 first 0;seat 1 a window +3;seat 0 b window -1;seat 5 c row 3 1;seat 13 d row 1 2;");
        CHECK.due("32: swaps", x.ifSettled(0), 2);
        CHECK.due("32: sum", x.ifSettled(1), 10003);
        CHECK.due("32: grumblers", x.ifSettled(2), 0);
        CHECK.due("32: nothing changed", x.value(5), 10000 - 1 - 2 - 4);
        CHECK.due("12: settle", x.settle(), 2);
        CHECK.dueText("12: seats", x.of(0, 0) + " " + x.of(1, 0) + " " + x.of(2, 0) + " " + x.of(3, 0), "0 1 13 5");
        CHECK.due("12: swaps", x.value(8), 2);
        CHECK.due("12: paid", x.value(11), 0);
        CHECK.due("12: one entry", x.value(15), 1);
        CHECK.due("12: kind", x.log(0, 0), 5);
        CHECK.due("12: number", x.log(0, 1), 2);
        CHECK.due("12: rise", x.log(0, 2), 10);
        CHECK.due("12: one operation", x.value(16), 1);
        CHECK.due("12: settled", x.settle(), SeatSwap.NOT_FOUND);
        CHECK.due("12: still one", x.value(16), 1);
        CHECK.due("12: undo", x.undo(), 0);
        CHECK.due("12: as before", x.value(5), 9993);
    }

    /** Of several swaps the one that brings most, then the smallest asker, then the smallest other one. */
    private static void promise12Choice() {
        SeatSwap x = Texts.loaded("train 4 first 0;seat 1 a window +2;seat 2 b window +4;seat 0 c;");
        CHECK.due("12: most first", x.settle(), 1);
        CHECK.due("12: b has it", x.at(0), 1);
        CHECK.due("12: a has not", x.of(0, 0), 1);
        SeatSwap y = Texts.loaded("train 4 first 0;seat 1 a window +4;seat 2 b window +4;seat 0 c;");
        y.settle();
        CHECK.due("12: the smallest asker", y.at(0), 0);
        SeatSwap z = Texts.loaded("train 4 first 0;seat 1 a window +4;seat 0 b;seat 3 c;");
        z.settle();
        CHECK.due("12: the smallest other one", z.at(0), 0);
        SeatSwap w = Texts.loaded("train 4 first 1;seat 5 a window +4;seat 0 b ticket;");
        CHECK.due("12: no ticket", w.settle(), SeatSwap.NOT_FOUND);
        SeatSwap v = Texts.loaded("train 4 first 0;seat 1 a window +9 sweets 9;seat 0 b window +1;");
        CHECK.due("12: none is paid", v.settle(), SeatSwap.NOT_FOUND);
    }

    /** As long a settling as a search among many trains found; the model of ModelTest says the same. */
    private static void promise12Long() {
        SeatSwap x = Texts.loaded("train 10 first 0;seat 2 a family 2 window +3 ahead -8 row 0 3;"
            + "seat 28 a family 1 window +9 ahead -1 row 3 1;seat 17 a window +9 ahead -7 row 3 0;"
            + "seat 4 a family 2 window -9 row 9 2;seat 0 a ahead +5 row 4 0;seat 3 a family 2 window +5 row 5 3;"
            + "seat 14 a family 2 ahead -1 row 1 0;seat 15 a family 1 window -9 ahead -1 row 0 1;"
            + "seat 39 a family 1 window -8 ahead -5 row 5 3;seat 38 a family 3 window +4 ahead -9 row 7 2;"
            + "seat 23 a family 2 window +5 row 8 2;seat 35 a family 1 window -3 ahead +6 row 2 3;"
            + "seat 27 a family 2 window +8 ahead +1 row 7 1;seat 1 a family 1 window -3 ahead +2 row 2 2;"
            + "seat 32 a family 1 window +8 ahead +9 row 3 3;seat 25 a window +2 ahead -1 row 4 1;"
            + "seat 21 a window -3 ahead -9 row 4 1;seat 18 a family 2 window +6 ahead +4 row 0 0;"
            + "seat 11 a family 2 window -2 ahead +3 row 0 2;seat 8 a family 2 window -2 ahead +2 row 4 2;");
        int before = x.value(5);
        CHECK.due("32: swaps", x.ifSettled(0), 36);
        int then = x.ifSettled(1);
        CHECK.due("12: settle", x.settle(), 36);
        CHECK.due("12: sum", x.value(5), then);
        CHECK.due("12: swaps", x.value(8), 36);
        CHECK.due("12: rise", x.log(0, 2), then - before);
        CHECK.due("12: settled", x.settle(), SeatSwap.NOT_FOUND);
    }

    /** The sum of all JOYs counts, with those of the family whom one of the two comes to. */
    private static void promise12Others() {
        SeatSwap x = Texts.loaded("train 4 first 0;seat 1 a family 1;seat 9 b window +6;seat 10 c family 1;"
            + "seat 0 d;seat 8 e;");
        CHECK.due("27: d and b", x.ifSwapped(3, 1, 2), 1006);
        CHECK.due("27: e and a", x.ifSwapped(4, 0, 2), 1008);
        CHECK.due("12: settle", x.settle(), 2);
        CHECK.dueText("12: seats", x.of(0, 0) + " " + x.of(1, 0) + " " + x.of(2, 0) + " " + x.of(3, 0) + " "
            + x.of(4, 0), "9 0 10 1 8");
    }
}
