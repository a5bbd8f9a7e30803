/** Promises 13 to 16: station, keep, restore, undo. */
public final class OperationsTest {
    private static final Check CHECK = new Check("OperationsTest");
    private static final int MAX = Integer.MAX_VALUE;

    public static void main(String[] args) {
        promise13Station();
        promise13Full();
        promise14Keep();
        promise15Restore();
        promise15Log();
        promise16Undo();
        promise16WhatDoesNotCount();
        CHECK.end();
    }

    private static void promise13Station() {
        SeatSwap x = Texts.loaded("train 4 first 0;seat 0 a stop 3;seat 1 b family 1 stop 1;seat 2 c family 1 stop 3;"
            + "seat 3 d stop 2;seat 4 e stop 3;seat 5 f family 1;");
        CHECK.due("13: nothing", x.station(0), SeatSwap.INVALID);
        CHECK.due("13: below", x.station(-1), SeatSwap.INVALID);
        CHECK.due("13: above", x.station(51), SeatSwap.INVALID);
        CHECK.due("13: far above", x.station(MAX), SeatSwap.INVALID);
        CHECK.due("13: family before", x.of(5, 9), 108);
        CHECK.due("13: two stations", x.station(2), 2);
        CHECK.due("13: time", x.value(2), 2);
        CHECK.due("13: who is 1 now", x.of(1, 0), 2);
        CHECK.due("13: who is 3 now", x.of(3, 0), 5);
        CHECK.dueText("13: name of 3", Texts.name(x, 3), "f");
        CHECK.due("13: family behind it", x.of(3, 9), 104);
        CHECK.due("13: first off", x.log(0, 0) * 10000 + x.log(0, 1) * 100 + x.log(0, 2), 40101);
        CHECK.due("13: second off", x.log(1, 0) * 10000 + x.log(1, 1) * 100 + x.log(1, 2), 40203);
        CHECK.due("13: third station", x.station(1), 3);
        CHECK.due("13: greatest number first", x.log(2, 1) * 100 + x.log(2, 2), 204);
        CHECK.due("13: then", x.log(3, 1) * 100 + x.log(3, 2), 102);
        CHECK.due("13: then", x.log(4, 1) * 100 + x.log(4, 2), 0);
        CHECK.due("13: left", x.value(3), 1);
        CHECK.due("13: off", x.value(12), 5);
        CHECK.due("13: operations", x.value(16), 2);
        CHECK.due("13: seat is free", x.at(0), SeatSwap.NOT_FOUND);
        CHECK.due("13: none", x.station(50), 0);
        CHECK.due("13: an operation all the same", x.value(16), 3);
        CHECK.due("13: one whose stop was", Texts.come(x, "late", 0, 0, 0, 0, 53), 1);
        CHECK.due("13: stays", x.station(1), 0);
        CHECK.due("13: undo", x.undo(), 4);
        CHECK.due("13: the time too", x.value(2), 53);
        CHECK.due("13: up to 99", x.station(46), 1);
    }

    private static void promise13Full() {
        SeatSwap x = Texts.loaded("train 4 first 0;seat 0 a;");
        for (int i = 1; i <= 19; i++) {
            CHECK.due("13: on", x.station(50), i == 2 ? 1 : 0);
        }
        CHECK.due("13: 950", x.value(2), 950);
        CHECK.due("13: over 999", x.station(50), SeatSwap.FULL);
        CHECK.due("13: invalid before full", x.station(51), SeatSwap.INVALID);
        CHECK.due("13: nothing changed", x.value(2), 950);
        CHECK.due("13: just 999", x.station(49), 0);
        CHECK.due("13: over", x.station(1), SeatSwap.FULL);
        CHECK.due("13: time", x.value(2), 999);
        CHECK.due("13: no operation", x.value(16), 8);
    }

    private static void promise14Keep() {
        SeatSwap x = Texts.loaded("train 4 first 0;seat 0 a;seat 1 b;");
        CHECK.due("14: below", x.keep(-1), SeatSwap.INVALID);
        CHECK.due("14: above", x.keep(2), SeatSwap.INVALID);
        CHECK.due("14: far above", x.keep(MAX), SeatSwap.INVALID);
        CHECK.due("14: keep", x.keep(0), 2);
        CHECK.due("14: no operation", x.value(16), 0);
        CHECK.due("14: the other slot is empty", x.restore(1), SeatSwap.NOT_FOUND);
        Texts.come(x, "c", 2, 0, 0, 0, 9);
        CHECK.due("14: keep", x.keep(1), 3);
        Texts.come(x, "d", 3, 0, 0, 0, 9);
        CHECK.due("14: in place of what it had", x.keep(0), 4);
        CHECK.due("14: restore 1", x.restore(1), 3);
        CHECK.due("14: restore 0", x.restore(0), 4);
        CHECK.due("14: who came last", x.at(3), 3);
    }

    private static void promise15Restore() {
        SeatSwap x = Texts.loaded("train 4 first 0;seat 0 a family 1 sweets 9;seat 2 b window +2;seat 5 c family 1;");
        CHECK.due("15: below", x.restore(-1), SeatSwap.INVALID);
        CHECK.due("15: above", x.restore(2), SeatSwap.INVALID);
        CHECK.due("15: empty", x.restore(0), SeatSwap.NOT_FOUND);
        CHECK.due("15: no operation", x.value(16), 0);
        x.swap(1, 0, 0);
        x.move(2, 6);
        x.ring(0, 2, 1);
        x.first(0);
        x.set(0, 1, 2);
        x.station(3);
        String kept = Texts.state(x);
        x.keep(0);
        x.set(0, 1, 3);
        x.station(50);
        x.station(50);
        x.move(0, 1);
        x.settle();
        x.set(0, 3, 3);
        String later = Texts.state(x);
        CHECK.that("15: it is another state", !later.equals(kept));
        CHECK.due("15: restore", x.restore(0), 3);
        CHECK.dueText("15: as it was", Texts.state(x), kept);
        CHECK.due("15: an operation", x.value(16), 8);
        CHECK.due("15: undo", x.undo(), 7);
        CHECK.dueText("15: as before", Texts.state(x), later);
        x.first(4);
        CHECK.due("15: the slot keeps it", x.restore(0), 3);
        CHECK.dueText("15: as it was", Texts.state(x), kept);
        CHECK.due("15: the family too", x.family(1, 2), 1000 + x.of(0, 9) - 100 + x.of(2, 9) - 100);
        x.set(0, 0, 7);
        CHECK.due("15: once more", x.restore(0), 3);
        CHECK.dueText("15: the slot is no part of the train", Texts.state(x), kept);
        CHECK.due("15: twice", x.restore(0), 3);
        CHECK.due("15: counts though it changes nothing", x.undo(), 7);
    }

    /** The log and the sweets that were paid are part of what was kept. */
    private static void promise15Log() {
        SeatSwap x = Texts.loaded("train 4 first 0;seat 1 a window +9 sweets 9;seat 0 b window +2;");
        CHECK.due("9: swap", x.swap(0, 1, 4), 107);
        CHECK.due("17: paid", x.value(11), 4);
        x.keep(1);
        CHECK.due("16: undo", x.undo(), 0);
        CHECK.due("16: nothing is paid any more", x.value(11), 0);
        CHECK.due("16: no entry", x.log(0, 0), SeatSwap.NOT_FOUND);
        CHECK.due("7: set", x.set(0, 1, 3), 9);
        CHECK.due("34: its entry", x.log(0, 0), 6);
        CHECK.due("15: restore", x.restore(1), 2);
        CHECK.dueText("15: the entry that was kept", x.log(0, 0) + " " + x.log(0, 1) + " " + x.log(0, 2), "1 1 4");
        CHECK.due("15: paid", x.value(11), 4);
        CHECK.due("15: like", x.of(0, 4), 9);
        x.undo();
        CHECK.dueText("16: the entry before", x.log(0, 0) + " " + x.log(0, 1) + " " + x.log(0, 2), "6 1 0");
        CHECK.due("16: paid", x.value(11), 0);
    }

    private static final int OPERATIONS = 11;

    /** Does the first ones of eleven operations, of each kind. */
    private static SeatSwap done(int many) {
        SeatSwap x = Texts.loaded("train 4 first 1;seat 4 a family 1 sweets 9;seat 5 b window +2 sweets 2;"
            + "seat 13 c family 1;seat 14 d stop 1;");
        x.keep(0);
        for (int i = 0; i < many; i++) {
            int before = x.value(16);
            int answer = operation(x, i);
            CHECK.that("16: operation " + i + " answered " + answer, answer >= 0);
            CHECK.due("16: operation " + i + " counts", x.value(16), Math.min(before + 1, 8));
        }
        return x;
    }

    private static int operation(SeatSwap x, int i) {
        switch (i) {
            case 0: return x.restore(0);
            case 1: return Texts.come(x, "e", 15, 0, 1, 5, 50);
            case 2: return x.swap(1, 3, 0);
            case 3: return x.move(3, 7);
            case 4: return x.ring(3, 1, 0);
            case 5: return x.set(2, 0, 5);
            case 6: return x.settle();
            case 7: return x.first(0);
            case 8: return x.station(1);
            case 9: return x.set(0, 1, -5);
            default: return x.restore(0);
        }
    }

    private static void promise16Undo() {
        for (int undone = 0; undone <= 8; undone++) {
            SeatSwap x = done(OPERATIONS);
            Texts.put(x, "tape");
            for (int left = 7; left > 7 - undone; left--) {
                CHECK.due("16: undo", x.undo(), left);
            }
            CHECK.due("16: operations", x.value(16), 8 - undone);
            SeatSwap due = done(OPERATIONS - undone);
            CHECK.dueText("16: " + undone + " undone", Texts.state(x), Texts.state(due));
            CHECK.due("16: the tape stays", x.truncate(0), 4);
            if (undone == 8) {
                CHECK.due("16: no more", x.undo(), SeatSwap.INVALID);
                CHECK.due("16: the slots stay", x.restore(0), 4);
                CHECK.due("16: one to undo", x.value(16), 1);
            }
        }
    }

    private static void promise16WhatDoesNotCount() {
        SeatSwap x = Texts.loaded("train 4 first 0;seat 0 a;seat 1 b;");
        for (int i = 0; i < 8; i++) {
            x.set(0, 2, i % 2 + 1);
        }
        CHECK.due("16: eight", x.value(16), 8);
        x.undo();
        x.undo();
        CHECK.due("16: one undone counts no more", x.value(16), 6);
        x.set(0, 3, 1);
        x.set(0, 3, 2);
        CHECK.due("16: eight again", x.value(16), 8);
        x.set(0, 3, 3);
        CHECK.due("16: still eight", x.value(16), 8);
        for (int left = 7; left >= 0; left--) {
            CHECK.due("16: undo", x.undo(), left);
        }
        CHECK.due("16: the first operation is forgotten for good", x.of(0, 5), 1);
        CHECK.due("16: the end", x.undo(), SeatSwap.INVALID);
        x.keep(0);
        x.why(0, 1, 0);
        x.ifSettled(0);
        x.swap(0, 0, 0);
        x.move(0, 0);
        x.settle();
        x.first(0);
        x.come(0, 0, 0, 0, 0);
        x.station(0);
        CHECK.due("16: none of these is an operation", x.value(16), 0);
        x.undo();
        CHECK.due("16: none", x.value(16), 0);
    }
}
