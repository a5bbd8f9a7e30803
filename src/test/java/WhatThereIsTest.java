/** Promises 17 to 23: value, of, letter, at, table, family, ranked. */
public final class WhatThereIsTest {
    private static final Check CHECK = new Check("WhatThereIsTest");
    private static final int MAX = Integer.MAX_VALUE;
    private static final int MIN = Integer.MIN_VALUE;
    /** Joys: a 5 + 4, b -3 - 2 + 4, c 1 - 6, d 0, e 9 + 1. */
    private static final String FIVE = "train 5 first 1;seat 4 anna family 2 window +5 sweets 3;"
        + "seat 6 bo family 2 ahead -3 row 3 1 sweets 10;seat 8 c window +1 row 0 3;"
        + "seat 1 abcde ticket family 1 stop 7;seat 15 z family 9 window +9 ahead +1 sweets 99;";

    public static void main(String[] args) {
        promise17Value();
        promise17WhoIsGone();
        promise18Of();
        promise18Joys();
        promise19Letter();
        promise20At();
        promise21Table();
        promise22Family();
        promise23Ranked();
        CHECK.end();
    }

    private static void promise17Value() {
        SeatSwap x = Texts.loaded(FIVE);
        int[] due = {5, 1, 0, 5, 15, 10013, 2, 112, 0, 0, 0, 0, 0, 3, 3, 0, 0};
        for (int what = 0; what < due.length; what++) {
            CHECK.due("17: value " + what, x.value(what), due[what]);
        }
        CHECK.due("17: below", x.value(-1), SeatSwap.INVALID);
        CHECK.due("17: above", x.value(17), SeatSwap.INVALID);
        CHECK.due("17: far above", x.value(MAX), SeatSwap.INVALID);
        CHECK.due("17: far below", x.value(MIN), SeatSwap.INVALID);
        for (int rows = 2; rows <= 10; rows++) {
            SeatSwap y = Texts.loaded("train " + rows + " first 0;");
            CHECK.due("17: rows", y.value(0), rows);
            CHECK.due("17: seats", y.value(4), 4 * rows);
            CHECK.due("17: tables", y.value(13), new int[] {1, 2, 2, 3, 3, 4, 4, 5, 5}[rows - 2]);
        }
        for (int i = 0; i < 41; i++) {
            x.set(0, 0, i % 2);
        }
        CHECK.due("17: forty entries at most", x.value(15), 40);
        CHECK.due("17: eight to undo at most", x.value(16), 8);
        SeatSwap worst = Texts.loaded("train 10 first 0;seat 36 a window -9 ahead -9 row 0 3;");
        CHECK.due("17: least joy", worst.value(5), 10000 - 45);
        CHECK.due("17: it grumbles", worst.value(6), 1);
    }

    /** Who got off is no part of any sum, nor is the one whose number nobody bears any more. */
    private static void promise17WhoIsGone() {
        SeatSwap x = Texts.loaded("train 4 first 0;seat 0 a family 1 window +3 sweets 5;"
            + "seat 1 b family 1 ahead -9 row 3 3 sweets 7 stop 1;seat 3 c family 1 window -9 sweets 9 stop 1;");
        CHECK.due("17: sum", x.value(5), 10000 + 11 - 1 - 1);
        CHECK.due("13: station", x.station(1), 2);
        int[] due = {4, 0, 1, 1, 15, 10003, 0, 5, 0, 0, 0, 0, 2, 2, 1, 2, 1};
        for (int what = 0; what < due.length; what++) {
            CHECK.due("17: value " + what, x.value(what), due[what]);
        }
        CHECK.dueText("21: table", x.table(0, 0) + " " + x.table(0, 1) + " " + x.table(0, 2) + " " + x.table(0, 3),
            "1 0 1003 1");
        CHECK.dueText("22: family", x.family(1, 0) + " " + x.family(1, 1) + " " + x.family(1, 2), "1 1 1003");
        CHECK.due("23: place", x.ranked(0), 0);
        CHECK.due("23: no more", x.ranked(1), SeatSwap.NOT_FOUND);
        CHECK.due("20: free", x.at(1), SeatSwap.NOT_FOUND);
        CHECK.due("33: nobody else", x.ifFirst(4), 1);
        CHECK.due("36: mean", (long) x.meanJoy(), 3);
    }

    private static void promise18Of() {
        SeatSwap x = Texts.loaded(FIVE);
        int[][] due = {
            {4, 0, 2, 14, 9, 0, 0, 3, 99, 109, 1, 1},
            {6, 0, 2, 9, 6, 3, 1, 10, 99, 99, 1, 3},
            {8, 0, 0, 10, 9, 0, 3, 0, 99, 95, 0, 4},
            {1, 1, 1, 9, 9, 0, 0, 0, 7, 100, 0, 2},
            {15, 0, 9, 18, 10, 0, 0, 99, 99, 110, 0, 0},
        };
        for (int t = 0; t < 5; t++) {
            for (int what = 0; what <= 11; what++) {
                CHECK.due("18: of " + t + " " + what, x.of(t, what), due[t][what]);
            }
        }
        CHECK.due("18: what below", x.of(0, -1), SeatSwap.INVALID);
        CHECK.due("18: what above", x.of(0, 12), SeatSwap.INVALID);
        CHECK.due("18: what far above", x.of(0, MAX), SeatSwap.INVALID);
        CHECK.due("18: traveller below", x.of(-1, 0), SeatSwap.INVALID);
        CHECK.due("18: traveller above", x.of(5, 0), SeatSwap.INVALID);
        CHECK.due("18: traveller far above", x.of(MAX, 0), SeatSwap.INVALID);
        CHECK.due("18: traveller far below", x.of(MIN, 0), SeatSwap.INVALID);
    }

    private static void promise18Joys() {
        SeatSwap x = Texts.loaded("train 5 first 0;seat 0 a window -4 ahead +7 row 2 3;");
        int[] window = {-4, 0, 0, -4};
        int[] row = {-6, 7 - 3, 0, 7 - 3, -6};
        for (int seat = 0; seat < 20; seat++) {
            CHECK.due("26: joy at " + seat, x.joyAt(0, seat), 100 + window[seat % 4] + row[seat / 4]);
        }
        SeatSwap y = Texts.loaded("train 4 first 0;seat 1 a family 1;seat 2 b family 1;seat 5 c family 1;seat 9 d family 1;"
            + "seat 6 e family 2;seat 7 f;seat 8 g;");
        int[] kin = {2, 2, 2, 0, 0, 0, 0};
        for (int t = 0; t < 7; t++) {
            CHECK.due("18: others of the family", y.of(t, 10), kin[t]);
            CHECK.due("18: joy", y.of(t, 9), 100 + 4 * kin[t]);
        }
        CHECK.due("18: those without a family are none", y.of(5, 10), 0);
    }

    private static void promise19Letter() {
        SeatSwap x = Texts.loaded(FIVE);
        int[] anna = {1, 14, 14, 1, -2, -2, -2};
        int[] abcde = {1, 2, 3, 4, 5, -2, -2};
        for (int i = 0; i < 7; i++) {
            CHECK.due("19: letter", x.letter(0, i), anna[i]);
            CHECK.due("19: letter", x.letter(3, i), abcde[i]);
        }
        CHECK.due("19: z", x.letter(4, 0), 26);
        CHECK.due("19: behind z", x.letter(4, 1), SeatSwap.NOT_FOUND);
        CHECK.due("19: far behind", x.letter(4, MAX), SeatSwap.NOT_FOUND);
        CHECK.due("19: 32 further", x.letter(4, 32), SeatSwap.NOT_FOUND);
        CHECK.due("19: below", x.letter(4, -1), SeatSwap.INVALID);
        CHECK.due("19: far below", x.letter(4, MIN), SeatSwap.INVALID);
        CHECK.due("19: traveller", x.letter(5, 0), SeatSwap.INVALID);
        CHECK.due("19: traveller first", x.letter(5, 9), SeatSwap.INVALID);
        CHECK.due("19: traveller", x.letter(-1, 0), SeatSwap.INVALID);
    }

    private static void promise20At() {
        SeatSwap x = Texts.loaded(FIVE);
        int[] due = {-2, 3, -2, -2, 0, -2, 1, -2, 2, -2, -2, -2, -2, -2, -2, 4, -2, -2, -2, -2};
        for (int seat = 0; seat < 20; seat++) {
            CHECK.due("20: at " + seat, x.at(seat), due[seat]);
        }
        CHECK.due("20: below", x.at(-1), SeatSwap.INVALID);
        CHECK.due("20: above", x.at(20), SeatSwap.INVALID);
        CHECK.due("20: far above", x.at(MAX), SeatSwap.INVALID);
        CHECK.due("20: far below", x.at(MIN), SeatSwap.INVALID);
    }

    private static void promise21Table() {
        SeatSwap x = Texts.loaded(FIVE);
        int[][] due = {{3, 1, 1008, 2}, {2, 1, 1005, 9}, {0, 0, 1000, 0}};
        for (int table = 0; table < 3; table++) {
            for (int what = 0; what <= 3; what++) {
                CHECK.due("21: table " + table + " " + what, x.table(table, what), due[table][what]);
            }
        }
        CHECK.due("21: what below", x.table(0, -1), SeatSwap.INVALID);
        CHECK.due("21: what above", x.table(0, 4), SeatSwap.INVALID);
        CHECK.due("21: table below", x.table(-1, 0), SeatSwap.INVALID);
        CHECK.due("21: table above", x.table(3, 0), SeatSwap.INVALID);
        CHECK.due("21: table far above", x.table(MAX, 0), SeatSwap.INVALID);
        SeatSwap y = Texts.loaded("train 3 first 0;seat 0 a family 7;seat 1 b family 3;seat 2 c family 7;"
            + "seat 4 d family 3;seat 7 e family 9;seat 8 f;seat 9 g;seat 10 h family 8;");
        CHECK.due("21: of several the smallest", y.table(0, 3), 3);
        CHECK.due("21: those without a family are none", y.table(1, 3), 8);
        CHECK.due("21: one row alone", y.table(1, 0), 3);
        CHECK.due("21: sum", y.table(0, 2), 1016);
        CHECK.due("21: no table", y.table(2, 0), SeatSwap.INVALID);
        SeatSwap one = Texts.loaded("train 3 first 0;seat 0 a family 1 window -1;seat 8 b family 2;");
        CHECK.due("21: the first family", one.table(0, 3), 1);
        CHECK.due("21: the first traveller grumbles", one.table(0, 1), 1);
        SeatSwap z = Texts.loaded("train 3 first 0;seat 0 a;seat 8 b;");
        CHECK.due("21: no family", z.table(0, 3), 0);
    }

    private static void promise22Family() {
        SeatSwap x = Texts.loaded("train 10 first 0;seat 0 a family 1 window -1;seat 5 b family 1;seat 9 c family 1;"
            + "seat 37 d family 1 ahead +3;seat 38 e family 9 row 0 1;seat 39 f;");
        int[][] due = {{4, 3, 1010}, {0, 0, 1000}, {1, 1, 991}};
        int[] families = {1, 2, 9};
        for (int i = 0; i < 3; i++) {
            for (int what = 0; what <= 2; what++) {
                CHECK.due("22: family " + families[i] + " " + what, x.family(families[i], what), due[i][what]);
            }
        }
        CHECK.due("22: family 0", x.family(0, 0), SeatSwap.INVALID);
        CHECK.due("22: family 10", x.family(10, 0), SeatSwap.INVALID);
        CHECK.due("22: family -1", x.family(-1, 0), SeatSwap.INVALID);
        CHECK.due("22: far", x.family(MAX, 0), SeatSwap.INVALID);
        CHECK.due("22: what below", x.family(1, -1), SeatSwap.INVALID);
        CHECK.due("22: what above", x.family(1, 3), SeatSwap.INVALID);
        CHECK.due("17: different families", x.value(14), 2);
    }

    private static void promise23Ranked() {
        SeatSwap x = Texts.loaded(FIVE);
        int[] due = {4, 0, 3, 1, 2};
        for (int place = 0; place < 5; place++) {
            CHECK.due("23: ranked " + place, x.ranked(place), due[place]);
            CHECK.due("23: as of", x.of(due[place], 11), place);
        }
        CHECK.due("23: not so many", x.ranked(5), SeatSwap.NOT_FOUND);
        CHECK.due("23: far above", x.ranked(MAX), SeatSwap.NOT_FOUND);
        CHECK.due("23: below", x.ranked(-1), SeatSwap.INVALID);
        CHECK.due("23: far below", x.ranked(MIN), SeatSwap.INVALID);
        SeatSwap y = Texts.loaded("train 4 first 0;seat 1 a;seat 0 b window +1;seat 2 c;seat 3 d window +1;");
        int[] same = {1, 3, 0, 2};
        for (int place = 0; place < 4; place++) {
            CHECK.due("23: of several the smallest first", y.ranked(place), same[place]);
        }
        CHECK.due("23: nobody", new SeatSwap().ranked(0), SeatSwap.NOT_FOUND);
    }
}
