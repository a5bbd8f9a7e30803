/** Promises 6 to 8: come, set, first. */
public final class TravellersTest {
    private static final Check CHECK = new Check("TravellersTest");
    private static final int MIN = Integer.MIN_VALUE;
    private static final int MAX = Integer.MAX_VALUE;

    public static void main(String[] args) {
        promise6Come();
        promise6Arguments();
        promise6Names();
        promise6FullAndBarred();
        promise7Set();
        promise7Ranges();
        promise7Ticket();
        promise8First();
        CHECK.end();
    }

    private static void promise6Come() {
        SeatSwap x = new SeatSwap();
        CHECK.due("6: the first one", Texts.come(x, "anna", 15, 0, 9, 99, 1), 0);
        CHECK.due("6: the tape is empty", x.truncate(1), SeatSwap.INVALID);
        CHECK.due("6: the second one", Texts.come(x, "z", 0, 1, 0, 0, 99), 1);
        CHECK.due("6: five letters", Texts.come(x, "abcde", 4, 1, 1, 5, 50), 2);
        CHECK.dueText("6: setup", Texts.setup(x), "train 4 first 1;seat 15 anna family 9 sweets 99 stop 1;"
            + "seat 0 z ticket;seat 4 abcde ticket family 1 sweets 5 stop 50;");
        CHECK.due("6: like of the window", x.of(0, 3), 9);
        CHECK.due("6: like of looking forward", x.of(0, 4), 9);
        CHECK.due("6: row", x.of(0, 5), 0);
        CHECK.due("6: pulls", x.of(0, 6), 0);
        CHECK.due("6: log", x.value(15), 3);
        CHECK.due("6: log kind", x.log(0, 0), 0);
        CHECK.due("6: log number", x.log(2, 1), 2);
        CHECK.due("6: log seat", x.log(0, 2), 15);
        CHECK.due("6: operations", x.value(16), 3);
        x.station(1);
        CHECK.due("6: behind the others", Texts.come(x, "new", 5, 0, 0, 0, 99), 2);
        CHECK.due("6: likes of one who takes an old place", x.of(2, 3), 9);
        x.set(2, 0, 4);
        x.set(2, 2, 3);
        x.undo();
        x.undo();
        x.undo();
        CHECK.due("6: again", Texts.come(x, "newer", 5, 0, 0, 0, 99), 2);
        CHECK.due("6: like", x.of(2, 3), 9);
        CHECK.due("6: row", x.of(2, 5), 0);
        CHECK.dueText("6: name", Texts.name(x, 2), "newer");
    }

    private static void bad(SeatSwap x, int seat, int ticket, int family, int sweets, int stop) {
        CHECK.due("6: come " + seat + " " + ticket + " " + family + " " + sweets + " " + stop,
            x.come(seat, ticket, family, sweets, stop), SeatSwap.INVALID);
    }

    private static void promise6Arguments() {
        SeatSwap x = new SeatSwap();
        Texts.put(x, "anna");
        bad(x, -1, 0, 0, 0, 1);
        bad(x, 16, 0, 0, 0, 1);
        bad(x, MAX, 0, 0, 0, 1);
        bad(x, MIN, 0, 0, 0, 1);
        bad(x, 4, -1, 0, 0, 1);
        bad(x, 4, 2, 0, 0, 1);
        bad(x, 4, 0, -1, 0, 1);
        bad(x, 4, 0, 10, 0, 1);
        bad(x, 4, 0, 0, -1, 1);
        bad(x, 4, 0, 0, 100, 1);
        bad(x, 4, 0, 0, 0, 0);
        bad(x, 4, 0, 0, 0, 100);
        bad(x, 0, 0, 0, 0, 0);
        CHECK.due("6: the tape stays", x.truncate(0), 4);
        CHECK.due("6: nobody came", x.value(3), 0);
        CHECK.due("6: nothing to undo", x.value(16), 0);
    }

    private static void promise6Names() {
        for (String name : new String[] {"", "abcdef", "a1", "1", "A", "aB", " a", "a ", "a b", "a\n", "a;", "train",
            "first", "seat", "ticket", "family", "window", "ahead", "row", "sweets", "stop", "`", "{", "\u00e9",
            "a\u0000"}) {
            SeatSwap x = new SeatSwap();
            CHECK.due("6: come " + name, Texts.come(x, name, 4, 0, 0, 0, 1), SeatSwap.INVALID);
            CHECK.due("6: the tape stays for " + name, x.truncate(0), name.length());
            CHECK.due("6: barred is told later: " + name, x.come(0, 0, 0, 0, 1), SeatSwap.INVALID);
        }
        for (String name : new String[] {"a", "z", "az", "seats", "row" + "s", "trai", "tick", "zzzzz"}) {
            SeatSwap x = new SeatSwap();
            CHECK.due("6: come " + name, Texts.come(x, name, 4, 0, 0, 0, 1), 0);
            CHECK.dueText("6: name", Texts.name(x, 0), name);
        }
    }

    private static void promise6FullAndBarred() {
        SeatSwap x = Texts.loaded("train 6 first 1;");
        Texts.put(x, "a");
        CHECK.due("6: no ticket", x.come(3, 0, 0, 0, 1), SeatSwap.BARRED);
        CHECK.due("6: the tape stays", x.truncate(0), 1);
        CHECK.due("6: with the ticket", x.come(3, 1, 0, 0, 1), 0);
        CHECK.due("6: not free", Texts.come(x, "b", 3, 1, 0, 0, 1), SeatSwap.BARRED);
        CHECK.due("6: the tape stays", x.truncate(1), 0);
        CHECK.due("6: first seat behind the first class", Texts.come(x, "b", 4, 0, 0, 0, 1), 1);
        for (int seat = 5; seat < 23; seat++) {
            CHECK.due("6: many", Texts.come(x, "c", seat, 0, 0, 0, 1), seat - 3);
        }
        Texts.put(x, "x");
        CHECK.due("6: full", x.come(23, 0, 0, 0, 1), SeatSwap.FULL);
        CHECK.due("6: full before barred", x.come(0, 0, 0, 0, 1), SeatSwap.FULL);
        CHECK.due("6: full before not free", x.come(4, 0, 0, 0, 1), SeatSwap.FULL);
        CHECK.due("6: invalid before full", x.come(24, 0, 0, 0, 1), SeatSwap.INVALID);
        CHECK.due("6: the tape stays", x.truncate(1), 0);
        CHECK.due("6: no name before full", x.come(23, 0, 0, 0, 1), SeatSwap.INVALID);
        CHECK.due("6: as many", x.value(3), 20);
    }

    private static void promise7Set() {
        SeatSwap x = Texts.loaded("train 4 first 0;seat 4 a;seat 5 b window -3 ahead +4 row 2 3;");
        CHECK.due("7: window", x.set(1, 0, -9), 6);
        CHECK.due("7: window again", x.set(1, 0, 9), 0);
        CHECK.due("7: ahead", x.set(1, 1, 9), 13);
        CHECK.due("7: ahead again", x.set(1, 1, -9), 18);
        CHECK.due("7: row", x.set(1, 2, 3), 2);
        CHECK.due("7: pulls", x.set(1, 3, 0), 3);
        CHECK.due("7: ticket", x.set(1, 4, 1), 0);
        CHECK.due("7: ticket again", x.set(1, 4, 0), 1);
        CHECK.dueText("7: setup", Texts.setup(x),
            "train 4 first 0;seat 4 a;seat 5 b window +9 ahead -9 row 3 0;");
        CHECK.due("7: log kind", x.log(0, 0), 6);
        CHECK.due("7: log number", x.log(0, 1), 10);
        CHECK.due("7: log former", x.log(0, 2), -3);
        CHECK.due("7: log former", x.log(1, 2), -9);
        CHECK.due("7: log number", x.log(5, 1), 13);
        CHECK.due("7: log former", x.log(5, 2), 3);
        CHECK.due("7: log number", x.log(7, 1), 14);
        CHECK.due("7: log former", x.log(7, 2), 1);
        CHECK.due("7: operations", x.value(16), 8);
        int[] same = {9, -9, 3, 0, 0};
        for (int what = 0; what <= 4; what++) {
            CHECK.due("7: as it is " + what, x.set(1, what, same[what]), SeatSwap.NOT_FOUND);
        }
        CHECK.due("7: no entry", x.value(15), 8);
        CHECK.due("7: the joy follows", x.of(1, 9), 100 - 9);
    }

    private static void promise7Ranges() {
        SeatSwap x = Texts.loaded("train 3 first 0;seat 4 a ticket window +1 ahead +1 row 1 1;");
        int[][] bad = {{0, -10}, {0, 10}, {1, -10}, {1, 10}, {2, -1}, {2, 3}, {3, -1}, {3, 4}, {4, -1}, {4, 2},
            {5, 0}, {-1, 0}, {MAX, 0}, {MIN, 0}, {0, MAX}, {1, MIN}, {2, MAX}, {3, MIN}, {4, MAX}};
        for (int[] b : bad) {
            CHECK.due("7: set " + b[0] + " " + b[1], x.set(0, b[0], b[1]), SeatSwap.INVALID);
        }
        CHECK.due("7: traveller", x.set(1, 0, 0), SeatSwap.INVALID);
        CHECK.due("7: traveller", x.set(-1, 0, 0), SeatSwap.INVALID);
        CHECK.due("7: traveller", x.set(MIN, 0, 0), SeatSwap.INVALID);
        CHECK.due("7: nothing changed", x.value(16), 0);
        CHECK.due("7: last row", x.set(0, 2, 2), 1);
        CHECK.due("7: first row", x.set(0, 2, 0), 2);
        CHECK.due("7: most pulls", x.set(0, 3, 3), 1);
    }

    private static void promise7Ticket() {
        SeatSwap x = Texts.loaded("train 4 first 1;seat 3 a ticket;seat 4 b ticket;");
        CHECK.due("7: barred", x.set(0, 4, 0), SeatSwap.BARRED);
        CHECK.due("7: it stays", x.of(0, 1), 1);
        CHECK.due("7: as it is", x.set(0, 4, 1), SeatSwap.NOT_FOUND);
        CHECK.due("7: not barred", x.set(1, 4, 0), 1);
        CHECK.due("7: back", x.set(1, 4, 1), 0);
    }

    private static void promise8First() {
        SeatSwap x = Texts.loaded("train 4 first 1;seat 3 a ticket;seat 11 b;");
        CHECK.due("8: as it is", x.first(1), SeatSwap.NOT_FOUND);
        CHECK.due("8: below", x.first(-1), SeatSwap.INVALID);
        CHECK.due("8: above", x.first(5), SeatSwap.INVALID);
        CHECK.due("8: far", x.first(MAX), SeatSwap.INVALID);
        CHECK.due("8: barred", x.first(3), SeatSwap.BARRED);
        CHECK.due("8: barred", x.first(4), SeatSwap.BARRED);
        CHECK.due("8: nothing changed", x.value(16), 0);
        CHECK.due("8: up to the row", x.first(2), 1);
        CHECK.due("8: none", x.first(0), 2);
        CHECK.due("8: value", x.value(1), 0);
        CHECK.due("8: kind", x.log(1, 0), 7);
        CHECK.due("8: number", x.log(1, 1), 0);
        CHECK.due("8: former", x.log(1, 2), 2);
        x.set(1, 4, 1);
        CHECK.due("8: all rows", x.first(4), 0);
        CHECK.due("8: operations", x.value(16), 4);
        SeatSwap y = Texts.loaded("train 2 first 2;");
        CHECK.due("8: as it is, with nobody", y.first(2), SeatSwap.NOT_FOUND);
        CHECK.due("8: rows", y.first(3), SeatSwap.INVALID);
    }
}
