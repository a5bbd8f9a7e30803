/** The edges that the promises 17 to 33 name: what there is, and what would be. */
public final class EdgesOfAnswersTest {
    private static final int MIN = Integer.MIN_VALUE;
    private static final int MAX = Integer.MAX_VALUE;

    public static void main(String[] args) {
        Edges edges = new Edges();
        list(edges);
        edges.run("EdgesOfAnswersTest");
    }

    static void list(Edges e) {
        value(e);
        of(e);
        letterAndAt(e);
        tableAndFamily(e);
        ranked(e);
        why(e);
        joyAt(e);
        ifSwapped(e);
        leastPrice(e);
        bestSeat(e);
        partner(e);
        rings(e);
        ifSettledAndIfFirst(e);
    }

    /** Twenty travellers of one family, the least joys and the greatest among them. */
    private static SeatSwap crowd() {
        StringBuilder text = new StringBuilder("train 10 first 0;");
        for (int t = 0; t < 20; t++) {
            text.append("seat").append(t < 8 ? t : 20 + t).append("a family9");
            text.append(t < 8 ? "window+9ahead+9" : "window-9ahead-9row0 3").append("sweets99;");
        }
        return Texts.loaded(text.toString());
    }

    private static void value(Edges e) {
        e.at("promise 17");
        e.plain("Returns a value.");
        e.says("0 ROWS, 1 FIRST, 2 TIME, 3 the number of travellers, 4 of SEATs that are free,", c -> {
            SeatSwap x = new SeatSwap();
            c.dueText("at first", values(x, 0, 4), "4 1 0 0 16 ");
            SeatSwap full = Texts.loaded("train 2 first 2;seat 0 a ticket;seat 1 a ticket;seat 2 a ticket;"
                + "seat 3 a ticket;seat 4 a ticket;seat 5 a ticket;seat 6 a ticket;seat 7 a ticket;");
            c.dueText("no seat is free", values(full, 0, 4), "2 2 0 8 0 ");
            SeatSwap most = EdgesOfExchangesTest.all("stop 1;");
            c.dueText("most", values(most, 0, 4), "10 0 0 20 20 ");
            most.first(0);
            most.station(50);
            most.first(10);
            c.dueText("later", values(most, 0, 4), "10 10 50 0 40 ");
            for (int i = 0; i < 18; i++) {
                most.station(50);
            }
            most.station(49);
            c.due("time", most.value(2), 999);
        });
        e.says("5 the sum of all JOYs plus 10000, 6 how many GRUMBLE, 7 the sum of all SWEETS,", c -> {
            c.dueText("nobody", values(new SeatSwap(), 5, 7), "10000 0 0 ");
            SeatSwap x = crowd();
            int high = 8 * 28 + 4 * 9 + 4 * 9;
            // Twelve at the tables 3 and 4: four in row 7, eight in the rows 8 and 9.
            int low = 4 * (12 - 9 - 21) + 4 * (28 - 24) + 4 * (28 - 9 - 27) - 3 * 2 * 9;
            c.dueText("crowd", values(x, 5, 7), (10000 + high + low) + " " + x.value(6) + " 1980 ");
            SeatSwap y = Texts.loaded("train 10 first 0;seat 39 a window -9 ahead -9 row 0 3;"
                + "seat 30 b ahead -9 row 0 3;seat 28 b window -9 ahead -9 row 0 3;");
            c.dueText("far below 0", values(y, 5, 7), (10000 - 45 - 30 - 39) + " 3 0 ");
            SeatSwap z = Texts.loaded("train 4 first 0;seat 0 a window -1;seat 3 b window +1;seat 1 d;");
            c.dueText("0 does not grumble", values(z, 5, 7), "10000 1 0 ");
        });
        e.says("8 swaps so far (of settling, too), 9 moves so far, 10 rings so far, 11 SWEETS that were paid so far,",
            c -> {
            SeatSwap x = Texts.loaded("train 4 first 0;seat 1 a window +9 sweets 99;seat 0 b;seat 2 d;");
            c.dueText("none", values(x, 8, 11), "0 0 0 0 ");
            x.swap(0, 1, 9);
            x.swap(1, 2, 0);
            x.move(1, 10);
            x.ring(1, 2, 0);
            c.dueText("refused ones are none", values(x, 8, 11), "2 1 0 9 ");
            x.set(0, 0, -9);
            x.ring(1, 2, 0);
            c.dueText("a ring", values(x, 8, 11), "2 1 1 9 ");
            c.due("settles", x.settle(), SeatSwap.NOT_FOUND);
            x.set(1, 0, 9);
            c.due("settles", x.settle(), 1);
            c.dueText("a settling", values(x, 8, 11), "3 1 1 9 ");
            x.undo();
            c.dueText("undone", values(x, 8, 11), "2 1 1 9 ");
        });
        e.says("12 travellers who got off so far, 13 TABLEs, 14 different FAMILYs (not 0),", c -> {
            StringBuilder text = new StringBuilder("train 9 first 0;");
            for (int family = 0; family <= 9; family++) {
                text.append("seat ").append(family).append(" a").append(family > 0 ? " family " + family
                    : "").append(" stop ")
                    .append(family + 1).append(";");
                text.append("seat ").append(20 + family).append(" a family 5 stop ").append(family + 1).append(";");
            }
            SeatSwap x = Texts.loaded(text.toString());
            for (int gone = 0; gone <= 10; gone++) {
                int families = gone == 10 ? 0 : gone <= 5 ? Math.min(9, 10 - gone) : 11 - gone;
                c.dueText("gone " + gone, values(x, 12, 14), 2 * gone + " 5 " + families + " ");
                x.station(1);
            }
        });
        e.says("15 the number of entries of the log, 16 of operations that can be undone", c -> {
            SeatSwap x = new SeatSwap();
            for (int i = 0; i <= 100; i++) {
                c.dueText("after " + i, values(x, 15, 16), Math.min(i, 40) + " " + Math.min(i, 8) + " ");
                x.first(i % 2 == 0 ? 2 : 1);
            }
            for (int left = 7; left >= 0; left--) {
                x.undo();
                c.dueText("left", values(x, 15, 16), "40 " + left + " ");
            }
        });
        e.says("Returns that value; INVALID for any other what.", c -> {
            SeatSwap x = crowd();
            for (int what = 0; what <= 16; what++) {
                c.that("what " + what, x.value(what) >= 0);
            }
            for (int what : Edges.outside(0, 16)) {
                c.due("what " + what, x.value(what), SeatSwap.INVALID);
            }
        });
    }

    private static String values(SeatSwap x, int least, int most) {
        StringBuilder text = new StringBuilder();
        for (int what = least; what <= most; what++) {
            text.append(x.value(what)).append(' ');
        }
        return text.toString();
    }

    private static void of(Edges e) {
        e.at("promise 18");
        e.plain("Returns a number of a traveller.", "a traveller");
        e.says("0 SEAT, 1 TICKET, 2 FAMILY, 3 the like of the window plus 9, 4 of looking forward plus 9, 5 ROW, 6 "
            + "PULLS, 7 SWEETS, 8 STOP, 9 JOY plus 100,", c -> {
            SeatSwap x = Texts.loaded("train 10 first 0;seat 0 a window -9 ahead -9 stop 1;"
                + "seat 39 b ticket family 9 window +9 ahead +9 row 9 3 sweets 99;"
                + "seat 36 d window -9 ahead -9 row 0 3;");
            int[][] due = {{0, 0, 0, 0, 0, 0, 0, 0, 1, 91}, {39, 1, 9, 18, 18, 9, 3, 99, 99, 118},
                {36, 0, 0, 0, 0, 0, 3, 0, 99, 55}};
            for (int t = 0; t < 3; t++) {
                for (int what = 0; what <= 9; what++) {
                    c.due(t + " " + what, x.of(t, what), due[t][what]);
                }
            }
            SeatSwap y = Texts.loaded("train 4 first 0;seat 1 a window +9 sweets 99;seat 0 b sweets 99;");
            y.swap(0, 1, 9);
            c.due("sweets above 99", y.of(1, 7), 108);
        });
        e.says("10 how many others of the FAMILY are at the same TABLE,", c -> {
            for (int family = 0; family <= 9; family += 9) {
                StringBuilder text = new StringBuilder("train 10 first 0;");
                for (int t = 0; t < 8; t++) {
                    text.append("seat ").append(8 + t).append(" a").append(family > 0 ? " family 9;" : ";");
                    SeatSwap x = Texts.loaded(text + "seat 0 b family 9;seat 16 b family 9;seat 20 d family 8;");
                    c.due("others", x.of(0, 10), family > 0 ? t : 0);
                    c.due("of one alone", x.of(t + 1, 10), 0);
                    c.due("of one of another family", x.of(t + 3, 10), 0);
                }
            }
        });
        e.says("11 the place by JOY, from 0 for the greatest, of several the smallest traveller first", c -> {
            SeatSwap same = EdgesOfExchangesTest.all(";");
            for (int t = 0; t < 20; t++) {
                c.due("all the same", same.of(t, 11), t);
            }
            StringBuilder text = new StringBuilder("train 10 first 0;");
            for (int t = 0; t < 10; t++) {
                text.append("seat ").append(4 * t).append(" a window +").append(t).append(";seat ").append(4 * t + 3)
                    .append(" b window -").append(9 - t).append(" ahead +0;");
            }
            SeatSwap x = Texts.loaded(text.toString());
            for (int t = 0; t < 10; t++) {
                int place = 9 - t;
                // The windows of +0 and -0 are the same: the first traveller comes before the last.
                c.due("joy of " + t, x.of(2 * t, 11), place);
                c.due("joy below 0 of " + t, x.of(2 * t + 1, 11), 10 + place);
            }
            c.due("one alone", Texts.loaded("train 4 first 0;seat 0 a window -9;").of(0, 11), 0);
        });
        e.says("Returns that number; INVALID for an invalid argument or any other what.", c -> {
            SeatSwap x = crowd();
            for (int what : Edges.outside(0, 11)) {
                c.due("what " + what, x.of(0, what), SeatSwap.INVALID);
                c.due("both " + what, x.of(20, what), SeatSwap.INVALID);
            }
            for (int t : Edges.outside(0, 19)) {
                for (int what = 0; what <= 11; what++) {
                    c.due("traveller " + t, x.of(t, what), SeatSwap.INVALID);
                }
            }
            for (int t : Edges.outside(0, -1)) {
                c.due("nobody", new SeatSwap().of(t, 0), SeatSwap.INVALID);
            }
        });
    }

    private static void letterAndAt(Edges e) {
        e.at("promise 19");
        e.plain("Returns a letter of a name.", "a traveller");
        e.says("index, from 0", c -> {
            SeatSwap x = Texts.loaded("train 4 first 0;seat 0 azbyc;");
            int[] due = {1, 26, 2, 25, 3, SeatSwap.NOT_FOUND, SeatSwap.NOT_FOUND};
            for (int i = 0; i < due.length; i++) {
                c.due("letter " + i, x.letter(0, i), due[i]);
            }
        });
        e.says("Returns 1 for a to 26 for z; INVALID for an invalid argument or a negative i; NOT_FOUND if the name "
            + "is not so long.", c -> {
            for (int letter = 1; letter <= 26; letter++) {
                for (int length = 1; length <= 5; length++) {
                    SeatSwap x = new SeatSwap();
                    Texts.come(x, ("" + (char) ('a' - 1 + letter)).repeat(length), 4, 0, 0, 0, 1);
                    for (int i = 0; i < 7; i++) {
                        c.due("letter " + i, x.letter(0, i), i < length ? letter : SeatSwap.NOT_FOUND);
                    }
                    // A shift by 5 i wraps at 32: the letters must not come again.
                    for (int i : new int[] {31, 32, 33, 64, 1 << 27, 1 << 30, MAX / 5, MAX / 5 + 1, MAX - 1, MAX}) {
                        c.due("letter " + i, x.letter(0, i), SeatSwap.NOT_FOUND);
                    }
                    for (int i : new int[] {-1, -2, -5, -6, -32, MIN, MIN + 1}) {
                        c.due("letter " + i, x.letter(0, i), SeatSwap.INVALID);
                    }
                    c.due("traveller 1", x.letter(1, 0), SeatSwap.INVALID);
                    c.due("traveller -1", x.letter(-1, 0), SeatSwap.INVALID);
                }
            }
        });
        e.at("promise 20");
        e.plain("Returns who has a SEAT.");
        e.says("a SEAT", c -> {
            SeatSwap x = EdgesOfExchangesTest.all(";");
            for (int seat = 0; seat < 40; seat++) {
                c.due("at " + seat, x.at(seat), seat < 20 ? seat : SeatSwap.NOT_FOUND);
            }
        });
        e.says("Returns the traveller; INVALID for an invalid argument; NOT_FOUND if it is free.", c -> {
            SeatSwap x = Texts.loaded("train 2 first 0;seat 0 a;seat 7 b stop 1;");
            c.due("first seat", x.at(0), 0);
            c.due("last seat", x.at(7), 1);
            c.due("free", x.at(1), SeatSwap.NOT_FOUND);
            for (int seat : Edges.outside(0, 7)) {
                c.due("at " + seat, x.at(seat), SeatSwap.INVALID);
            }
            x.station(1);
            c.due("free", x.at(7), SeatSwap.NOT_FOUND);
            x.move(0, 7);
            c.due("free", x.at(0), SeatSwap.NOT_FOUND);
            c.due("last seat", x.at(7), 0);
        });
    }

    private static void tableAndFamily(Edges e) {
        e.at("promise 21");
        e.plain("Returns a number of a TABLE.");
        e.says("a TABLE", c -> {
            for (int rows = 2; rows <= 10; rows++) {
                SeatSwap x = Texts.loaded("train " + rows + " first 0;");
                int tables = (rows + 1) / 2;
                for (int table : Edges.outside(0, tables - 1)) {
                    c.due("table " + table, x.table(table, 0), SeatSwap.INVALID);
                }
                for (int table = 0; table < tables; table++) {
                    c.due("table " + table, x.table(table, 0), 0);
                }
            }
        });
        e.says("0 how many travellers are at it, 1 how many of them GRUMBLE, 2 the sum of their JOYs plus 1000,", c -> {
            for (int many = 0; many <= 8; many++) {
                StringBuilder text = new StringBuilder("train 10 first 0;seat 0 b;seat 31 b row 0 1;");
                for (int i = 0; i < many; i++) {
                    text.append("seat ").append(32 + i).append(" a ahead -9 row 0 3;");
                }
                SeatSwap x = Texts.loaded(text.toString());
                int joys = -24 * Math.min(many, 4) - 36 * Math.max(0, many - 4);
                c.due("travellers", x.table(4, 0), many);
                c.due("grumblers", x.table(4, 1), many);
                c.due("joys", x.table(4, 2), 1000 + joys);
                c.dueText("empty", x.table(2, 0) + " " + x.table(2, 1) + " " + x.table(2, 2), "0 0 1000");
                c.dueText("others", x.table(0, 0) + " " + x.table(0, 1) + " " + x.table(0, 2), "1 0 1000");
            }
            SeatSwap x = Texts.loaded("train 2 first 0;seat 0 a window -1;seat 1 b;seat 7 d window +1;");
            c.dueText("a joy of 0 is no grumble", x.table(0, 0) + " " + x.table(0, 1) + " " + x.table(0, 2),
                "3 1 1000");
            SeatSwap gone = Texts.loaded("train 2 first 0;seat 0 a window +1;seat 3 b window -9 stop 1;");
            gone.station(1);
            c.dueText("who is gone counts no more", gone.table(0, 0) + " " + gone.table(0, 1) + " " + gone.table(0, 2),
                "1 0 1001");
        });
        e.says("3 the FAMILY with most members there, of several the smallest (0 if there is none)", c -> {
            c.due("nobody", new SeatSwap().table(0, 3), 0);
            c.due("no family", Texts.loaded("train 4 first 0;seat 0 a;seat 1 b;seat 8 d family 1;").table(0, 3), 0);
            for (int family = 1; family <= 9; family++) {
                String one = "train 4 first 0;seat 0 a;seat 1 b;seat 2 d family " + family + ";";
                c.due("one member", Texts.loaded(one).table(0, 3), family);
                String two = one + "seat 4 e family 9;seat 5 f family 9;";
                c.due("two of 9", Texts.loaded(two).table(0, 3), 9);
                c.due("two of both", Texts.loaded(two + "seat 6 g family " + family + ";").table(0, 3), family);
                c.due("one of both", Texts.loaded(one + "seat 3 e family 1;").table(0, 3), 1);
            }
            SeatSwap x = Texts.loaded("train 4 first 0;seat 0 a family 2 stop 1;seat 1 b family 3;seat 9 d family 2;"
                + "seat 10 e family 2;");
            c.due("2 before 3", x.table(0, 3), 2);
            x.station(1);
            c.due("3 is left", x.table(0, 3), 3);
        });
        e.says("Returns that number; INVALID for an invalid argument or any other what.", c -> {
            SeatSwap x = crowd();
            for (int what : Edges.outside(0, 3)) {
                c.due("what " + what, x.table(0, what), SeatSwap.INVALID);
                c.due("both", x.table(5, what), SeatSwap.INVALID);
            }
            for (int table : Edges.outside(0, 4)) {
                for (int what = 0; what <= 3; what++) {
                    c.due("table " + table, x.table(table, what), SeatSwap.INVALID);
                }
            }
        });
        e.at("promise 22");
        e.plain("Returns a number of a FAMILY.");
        e.says("1 to 9", c -> {
            SeatSwap x = EdgesOfExchangesTest.all(";");
            for (int family = 1; family <= 9; family++) {
                c.due("family " + family, x.family(family, 0), 0);
            }
            for (int family : Edges.outside(1, 9)) {
                c.due("family " + family, x.family(family, 0), SeatSwap.INVALID);
            }
            c.due("none is no family", x.family(0, 0), SeatSwap.INVALID);
        });
        e.says("0 how many members are in the train, 1 at how many TABLEs they are, 2 the sum of their JOYs plus 1000",
            c -> {
            c.dueText("no members", families(new SeatSwap(), 1), "0 0 1000");
            c.dueText("one family", families(EdgesOfExchangesTest.all("family 9;"), 9), "20 3 " + (1000 + 16 * 28
                + 4 * 12));
            StringBuilder text = new StringBuilder("train 10 first 0;");
            for (int i = 0; i < 5; i++) {
                text.append("seat ").append(8 * i + 7).append(" a family 1 window -9 ahead -9 row 0 3;");
                int joys = -5 * 18 - 3 * (1 + 3 + 5 + 7 + 9);
                int so = -18 * (i + 1) - 3 * (i + 1) * (i + 1);
                c.dueText("tables", families(Texts.loaded(text.toString()), 1), i + 1 + " " + (i + 1) + " " + (1000
                    + so));
                c.that("least", i < 4 || joys == so);
            }
            SeatSwap x = Texts.loaded(text + "seat 0 b family 2;seat 1 d;");
            c.dueText("another family", families(x, 2), "1 1 1000");
            x.move(5, 38);
            c.dueText("it moves", families(x, 2), "1 1 1000");
            SeatSwap gone = Texts.loaded("train 2 first 0;seat 0 a family 3 window +1;"
                + "seat 3 b family 3 window -9 stop 1;");
            c.dueText("two", families(gone, 3), "2 1 1000");
            gone.station(1);
            c.dueText("who is gone counts no more", families(gone, 3), "1 1 1001");
        });
        e.says("Returns that number; INVALID for an invalid argument or any other what.", c -> {
            SeatSwap x = crowd();
            for (int what : Edges.outside(0, 2)) {
                c.due("what " + what, x.family(9, what), SeatSwap.INVALID);
                c.due("both", x.family(10, what), SeatSwap.INVALID);
            }
            for (int family : Edges.outside(1, 9)) {
                for (int what = 0; what <= 2; what++) {
                    c.due("family " + family, x.family(family, what), SeatSwap.INVALID);
                }
            }
        });
    }

    private static String families(SeatSwap x, int family) {
        return x.family(family, 0) + " " + x.family(family, 1) + " " + x.family(family, 2);
    }

    private static void ranked(Edges e) {
        e.at("promise 23");
        e.plain("Returns the traveller at a place by JOY.");
        e.says("from 0 for the greatest JOY, as of(.., 11)", c -> {
            SeatSwap x = crowd();
            for (int place = 0; place < 20; place++) {
                int t = x.ranked(place);
                c.due("place " + place, x.of(t, 11), place);
                c.that("in order", place == 0 || x.of(x.ranked(place - 1), 9) >= x.of(t, 9));
            }
            SeatSwap same = EdgesOfExchangesTest.all(";");
            for (int place = 0; place < 20; place++) {
                c.due("all the same", same.ranked(place), place);
            }
        });
        e.says("Returns the traveller; INVALID for a negative place; NOT_FOUND if there are not so many.", c -> {
            for (int many = 0; many <= 2; many++) {
                SeatSwap x = Texts.loaded("train 4 first 0;" + (many > 0 ? "seat 0 a window -9;" : "")
                    + (many > 1 ? "seat 1 b;" : ""));
                for (int place = 0; place < many; place++) {
                    c.due("place " + place, x.ranked(place), many - 1 - place);
                }
                for (int place : new int[] {many, many + 1, 20, 256, MAX}) {
                    c.due("place " + place, x.ranked(place), SeatSwap.NOT_FOUND);
                }
                for (int place : new int[] {-1, -2, -20, MIN}) {
                    c.due("place " + place, x.ranked(place), SeatSwap.INVALID);
                }
            }
        });
    }

    private static void why(Edges e) {
        e.at("promise 24");
        e.plain("Tells why a swap would be refused.", "as for swap()");
        e.says("Returns the reason, 0 if it would not be; INVALID for an invalid argument or twice the same traveller.",
            c -> {
            SeatSwap x = Texts.loaded("train 4 first 1;seat 0 a ticket window -1 sweets 9;seat 4 b window +4;"
                + "seat 5 d window +9 sweets 5;seat 3 e ticket;");
            for (int a = 0; a < 4; a++) {
                for (int b = 0; b < 4; b++) {
                    for (int sweets = 0; sweets <= 9; sweets++) {
                        int reason = x.why(a, b, sweets);
                        c.that(a + " " + b + " " + sweets + ": " + reason, a == b ? reason == SeatSwap.INVALID
                            : reason >= 0 && reason <= 4);
                        int answer = x.swap(a, b, sweets);
                        c.that("as swap", a == b ? answer == SeatSwap.INVALID : reason == 0 ? answer >= 100
                            : answer == -10 - reason);
                        if (answer >= 0) {
                            x.undo();
                        }
                    }
                }
            }
            for (int t : Edges.outside(0, 3)) {
                c.due("asker " + t, x.why(t, 1, 0), SeatSwap.INVALID);
                c.due("other " + t, x.why(1, t, 0), SeatSwap.INVALID);
            }
        });
        e.says("Returns the reason, 0 if it would not be; INVALID for an invalid argument", c -> {
            SeatSwap x = Texts.loaded("train 4 first 1;seat 0 a ticket;seat 4 b;");
            for (int sweets : Edges.outside(0, 9)) {
                c.due("sweets " + sweets, x.why(0, 1, sweets), SeatSwap.INVALID);
                c.due("twice", x.why(1, 1, sweets), SeatSwap.INVALID);
            }
            c.due("1", x.why(0, 1, 9), 1);
        });
        e.at("promise 25");
        e.plain("Tells why a move would be refused.", "as for move()");
        e.says("Returns the reason, 0 if it would not be; INVALID for an invalid argument.", c -> {
            SeatSwap x = Texts.loaded("train 4 first 1;seat 1 a ticket window -1;seat 4 b window +4;"
                + "seat 5 d ahead +1;");
            for (int t = 0; t < 3; t++) {
                for (int seat = 0; seat < 16; seat++) {
                    int reason = x.whyMove(t, seat);
                    c.that(t + " " + seat + ": " + reason, reason == 0 || reason == 1 || reason == 5 || reason == 6);
                    int answer = x.move(t, seat);
                    c.that("as move", reason == 0 ? answer >= 0 : answer == -10 - reason);
                    if (answer >= 0) {
                        x.undo();
                    }
                }
            }
            for (int t : Edges.outside(0, 2)) {
                c.due("traveller " + t, x.whyMove(t, 0), SeatSwap.INVALID);
            }
            for (int seat : Edges.outside(0, 15)) {
                c.due("seat " + seat, x.whyMove(0, seat), SeatSwap.INVALID);
            }
        });
    }

    private static void joyAt(Edges e) {
        e.at("promise 26");
        e.plain("Tells the JOY in another SEAT.", "a traveller");
        e.says("a SEAT, whoever has it and whatever the TICKET is", c -> {
            SeatSwap x = Texts.loaded("train 4 first 4;seat 0 a ticket window +1;seat 15 b ticket;seat 12 d ticket;");
            for (int seat = 0; seat < 16; seat++) {
                c.due("seat " + seat, x.joyAt(0, seat), seat % 4 == 0 || seat % 4 == 3 ? 101 : 100);
            }
            SeatSwap y = Texts.loaded("train 4 first 2;seat 8 a window +1;");
            c.due("first class", y.joyAt(0, 0), 101);
            c.due("its last seat", y.joyAt(0, 7), 101);
            c.due("the own one", y.joyAt(0, 8), 101);
            for (int seat : Edges.outside(0, 15)) {
                c.due("seat " + seat, y.joyAt(0, seat), SeatSwap.INVALID);
            }
        });
        e.says("Returns the JOY, plus 100, if the traveller had this SEAT, and all others had theirs; INVALID for an "
            + "invalid argument.", c -> {
            SeatSwap x = Texts.loaded("train 4 first 0;seat 0 a family 1;seat 1 b family 1;seat 8 d family 1;");
            c.due("its own seat, without itself", x.joyAt(0, 0), 104);
            c.due("the seat of one of its family", x.joyAt(0, 1), 104);
            c.due("the seat of one of its family at another table", x.joyAt(0, 8), 104);
            c.due("beside it", x.joyAt(0, 9), 104);
            c.due("d to the others", x.joyAt(2, 7), 108);
            c.due("d in a's seat", x.joyAt(2, 0), 108);
            c.due("d in its own", x.joyAt(2, 8), 100);
            SeatSwap y = Texts.loaded("train 10 first 0;seat 0 a window -9 ahead -9 row 0 3;seat 32 b family 1;"
                + "seat 33 d family 1;seat 34 e family 1;seat 35 f family 1;seat 36 g family 1;seat 37 h family 1;"
                + "seat 38 i family 1;seat 1 j family 1 window +9 ahead +9;");
            c.due("least", y.joyAt(0, 39), 55);
            c.due("most", y.joyAt(8, 39), 146);
            for (int t : Edges.outside(0, 8)) {
                c.due("traveller " + t, y.joyAt(t, 0), SeatSwap.INVALID);
            }
        });
    }

    private static void ifSwapped(Edges e) {
        e.at("promise 27");
        e.plain("Tells what a swap would bring.", "as for swap()");
        e.says("0 by how much the JOY of the asker would rise, plus 100, 1 that of the other one, plus 100, 2 the sum "
            + "of all JOYs, plus 1000", c -> {
            SeatSwap x = Texts.loaded("train 10 first 0;seat 37 a window +9 ahead -9 row 0 3;"
                + "seat 0 b window +9 ahead -9 row 0 3;seat 8 d family 1;seat 9 e family 1;seat 15 f;");
            c.dueText("most and least", swapped(x, 0, 1), "145 55 981");
            c.dueText("asked by the other one", swapped(x, 1, 0), "55 145 981");
            c.dueText("a family parts", swapped(x, 2, 1), "96 94 967");
            c.dueText("nothing", swapped(x, 2, 3), "100 100 981");
            c.dueText("nothing", swapped(x, 2, 4), "100 100 981");
        });
        e.says("Returns that number, if both had the SEAT of the other one (refused or not);", c -> {
            SeatSwap x = Texts.loaded("train 4 first 1;seat 0 a ticket family 1;seat 8 b family 1;seat 9 d;");
            c.dueText("a ticket", swapped(x, 0, 2), "104 100 1008");
            c.dueText("the same family", swapped(x, 0, 1), "100 100 1000");
            c.due("it is refused", x.why(0, 2, 0), 1);
            SeatSwap y = Texts.loaded("train 4 first 0;seat 0 a family 1;seat 8 b family 1;seat 9 d family 1;");
            c.dueText("the same family, one is more", swapped(y, 0, 1), "104 96 1008");
        });
        e.says("INVALID for an invalid argument, any other what or twice the same traveller.", c -> {
            SeatSwap x = Texts.loaded("train 4 first 0;seat 0 a;seat 1 b;");
            for (int what : Edges.outside(0, 2)) {
                c.due("what " + what, x.ifSwapped(0, 1, what), SeatSwap.INVALID);
                c.due("both", x.ifSwapped(1, 1, what), SeatSwap.INVALID);
            }
            for (int t : Edges.outside(0, 1)) {
                for (int what = 0; what <= 2; what++) {
                    c.due("asker " + t, x.ifSwapped(t, 1, what), SeatSwap.INVALID);
                    c.due("other " + t, x.ifSwapped(0, t, what), SeatSwap.INVALID);
                    c.due("twice", x.ifSwapped(0, 0, what), SeatSwap.INVALID);
                }
            }
        });
    }

    private static String swapped(SeatSwap x, int a, int b) {
        return x.ifSwapped(a, b, 0) + " " + x.ifSwapped(a, b, 1) + " " + x.ifSwapped(a, b, 2);
    }

    private static void leastPrice(Edges e) {
        e.at("promise 28");
        e.plain("Finds the least price.", "a traveller");
        e.says("another traveller", c -> {
            SeatSwap x = EdgesOfExchangesTest.all(";");
            for (int t = 0; t < 20; t++) {
                c.due("itself", x.leastPrice(t, t), SeatSwap.INVALID);
                c.due("another one", x.leastPrice(t, 19 - t), 0);
            }
        });
        e.says("Returns the least number of SWEETS, 0 to 9, for which swap() would not be refused; INVALID for an "
            + "invalid argument or twice the same traveller; NOT_FOUND if there is none.", c -> {
            for (int loss = 0; loss <= 9; loss++) {
                for (int rise = -1; rise <= 9; rise += 2) {
                    for (int sweets = 0; sweets <= 9; sweets += 3) {
                        SeatSwap x = Texts.loaded("train 4 first 0;seat 1 a window " + EdgesOfTermsTest.signed(rise)
                            + " sweets " + sweets + ";seat 0 b window +" + loss + ";");
                        int due = loss <= sweets && loss <= rise ? loss : SeatSwap.NOT_FOUND;
                        c.due(loss + " " + rise + " " + sweets, x.leastPrice(0, 1), due);
                    }
                }
            }
            SeatSwap ten = Texts.loaded("train 4 first 0;seat 1 a window +9 ahead +9 sweets 99;"
                + "seat 4 b window +9 ahead +1;");
            c.due("ten would be needed", ten.leastPrice(0, 1), SeatSwap.NOT_FOUND);
            SeatSwap nine = Texts.loaded("train 4 first 0;seat 1 a window +9 ahead +9 sweets 9;"
                + "seat 4 b window +8 ahead +1;");
            c.due("nine", nine.leastPrice(0, 1), 9);
            c.due("nine", nine.swap(0, 1, 9), 109);
            c.due("a ticket", Texts.loaded("train 4 first 1;seat 4 a sweets 9;seat 0 b ticket;").leastPrice(0, 1),
                SeatSwap.NOT_FOUND);
            for (int t : Edges.outside(0, 1)) {
                c.due("asker " + t, nine.leastPrice(t, 1), SeatSwap.INVALID);
                c.due("other " + t, nine.leastPrice(0, t), SeatSwap.INVALID);
            }
        });
    }

    private static void bestSeat(Edges e) {
        e.at("promise 29");
        e.plain("Finds the best free SEAT.", "a traveller");
        e.says("Returns the free SEAT for which move() would not be refused with the greatest JOY there, of several "
            + "the smallest one; INVALID for an invalid argument; NOT_FOUND if there is none.", c -> {
            SeatSwap full = Texts.loaded("train 2 first 0;seat 0 a;seat 1 a;seat 2 a;seat 3 a;seat 4 a;seat 5 a;"
                + "seat 6 a;seat 7 a;");
            c.due("no seat is free", full.bestSeat(0), SeatSwap.NOT_FOUND);
            SeatSwap x = Texts.loaded("train 10 first 0;seat 0 a;");
            c.due("the smallest of all", x.bestSeat(0), 1);
            x.move(0, 1);
            c.due("the smallest of all", x.bestSeat(0), 0);
            x.set(0, 2, 9);
            x.set(0, 3, 1);
            c.due("the last row", x.bestSeat(0), 36);
            x.set(0, 0, 1);
            x.move(0, 36);
            c.due("its other window", x.bestSeat(0), 39);
            x.set(0, 0, -1);
            c.due("away from it", x.bestSeat(0), 37);
            SeatSwap y = Texts.loaded("train 3 first 2;seat 8 a window -1;seat 9 b;seat 10 d;");
            c.due("free seats in the first class, and one as bad", y.bestSeat(0), 11);
            c.due("one as good", y.bestSeat(1), 11);
            y.set(1, 0, -1);
            c.due("none as good", y.bestSeat(1), SeatSwap.NOT_FOUND);
            y.set(1, 4, 1);
            c.due("with a ticket", y.bestSeat(1), 1);
            SeatSwap low = Texts.loaded("train 10 first 0;seat 39 a window -9 ahead -9 row 0 3;seat 1 b;seat 2 d;");
            c.due("all below 0 but few", low.bestSeat(0), 0 + 9);
            for (int t : Edges.outside(0, 2)) {
                c.due("traveller " + t, low.bestSeat(t), SeatSwap.INVALID);
            }
            c.due("nobody", new SeatSwap().bestSeat(0), SeatSwap.INVALID);
        });
    }

    private static void partner(Edges e) {
        e.at("promise 30");
        e.plain("Finds a partner.", "a traveller");
        e.says("Returns the other traveller with whom a swap for 0 SWEETS would not be refused, and by which the JOY "
            + "of the asker rises most (by 1 at least), of several the smallest one; INVALID for an invalid argument; "
            + "NOT_FOUND if there is none.", c -> {
            for (int like = -1; like <= 1; like++) {
                SeatSwap x = Texts.loaded("train 4 first 0;seat 1 a window " + EdgesOfTermsTest.signed(like)
                    + ";seat 0 b;");
                c.due("rises by " + like, x.partner(0), like > 0 ? 1 : SeatSwap.NOT_FOUND);
                c.due("the other one never", x.partner(1), SeatSwap.NOT_FOUND);
            }
            SeatSwap x = Texts.loaded("train 4 first 0;seat 0 d;seat 3 e;seat 1 a window +2 ahead +1;seat 4 f;"
                + "seat 7 g;seat 15 h window +1;");
            c.due("most, the smallest of several", x.partner(2), 3);
            x.set(2, 1, 0);
            c.due("all windows are the same", x.partner(2), 0);
            x.set(0, 0, 1);
            c.due("d would lose", x.partner(2), 1);
            SeatSwap y = Texts.loaded("train 4 first 1;seat 4 a row 0 3;seat 0 b ticket;");
            c.due("a ticket", y.partner(0), SeatSwap.NOT_FOUND);
            c.due("alone", Texts.loaded("train 4 first 0;seat 1 a window +9;").partner(0), SeatSwap.NOT_FOUND);
            SeatSwap less = Texts.loaded("train 4 first 0;seat 1 a family 1 window +4;seat 2 d family 1;seat 8 b;");
            c.due("leaves the family for as much", less.partner(0), SeatSwap.NOT_FOUND);
            less.set(0, 0, 5);
            c.due("though the sum of all falls", less.partner(0), 2);
            for (int t : Edges.outside(0, 2)) {
                c.due("traveller " + t, less.partner(t), SeatSwap.INVALID);
            }
        });
    }

    private static void rings(Edges e) {
        e.at("promise 31");
        e.plain("Counts rings.");
        e.says("Returns how many ordered choices of three travellers with the smallest one first form a ring that "
            + "would not be refused,", c -> {
            c.due("nobody", new SeatSwap().rings(), 0);
            c.due("one", Texts.loaded("train 4 first 0;seat 1 a window +9;").rings(), 0);
            c.due("two", Texts.loaded("train 4 first 0;seat 1 a window +9;seat 0 b;").rings(), 0);
            String three = "train 4 first 0;seat 1 a window +1;seat 0 b;seat 3 d";
            c.due("three, both ways", Texts.loaded(three + ";").rings(), 2);
            c.due("three, one way", Texts.loaded(three + " window +1;").rings(), 1);
            String tickets = "train 4 first 1;seat 5 a ticket window +1;seat 0 b ticket;seat 3 d ticket;";
            c.due("all have tickets", Texts.loaded(tickets).rings(), 2);
            c.due("a has none", Texts.loaded(tickets.replace("a ticket", "a")).rings(), 0);
        });
        e.says("and by which the sum of their JOYs rises.", c -> {
            c.due("no one rises", Texts.loaded("train 4 first 0;seat 1 a;seat 0 b;seat 3 d;").rings(), 0);
            c.due("all the same", EdgesOfExchangesTest.all(";").rings(), 0);
            c.due("one of twenty", EdgesOfExchangesTest.all(";").set(0, 0, 9), 9);
            SeatSwap x = EdgesOfExchangesTest.all(";");
            x.set(0, 0, -1);
            // 0 leaves its window for one of the ten inner seats; any of the other 18 is the third one.
            c.due("of 20 one rises", x.rings(), 10 * 18);
            x.undo();
            x.set(19, 0, -1);
            c.due("of 20 the last one rises", x.rings(), 10 * 18);
            SeatSwap y = EdgesOfExchangesTest.all("window -1;");
            // Those in the ten windows and those within exchange: nobody of them may come to a window.
            c.due("nobody can", y.rings(), 0);
            SeatSwap z = Texts.loaded("train 4 first 0;seat 1 a family 1;seat 9 b;seat 10 d;"
                + "seat 11 e family 1 window +9;");
            c.due("the joy of others does not count", z.rings(), 4 - 2);
        });
    }

    private static void ifSettledAndIfFirst(Edges e) {
        e.at("promise 32");
        e.plain("Tells what settling would bring.");
        e.says("0 how many swaps would be done, 1 the sum of all JOYs then, plus 10000, 2 how many would GRUMBLE then",
            c -> {
            SeatSwap none = new SeatSwap();
            c.dueText("nobody", none.ifSettled(0) + " " + none.ifSettled(1) + " " + none.ifSettled(2), "0 10000 0");
            SeatSwap x = Texts.loaded("train 4 first 0;seat 1 a window +9;seat 0 b window -1;seat 5 d row 3 1;"
                + "seat 2 e;");
            c.dueText("one swap", x.ifSettled(0) + " " + x.ifSettled(1) + " " + x.ifSettled(2), "1 10007 1");
            c.due("settle", x.settle(), 1);
            c.dueText("none", x.ifSettled(0) + " " + x.ifSettled(1) + " " + x.ifSettled(2), "0 10007 1");
            SeatSwap low = Texts.loaded("train 10 first 0;seat 36 a window -9 row 0 3;seat 39 b window -9 row 0 3;");
            c.dueText("below 0", low.ifSettled(0) + " " + low.ifSettled(1) + " " + low.ifSettled(2), "0 9928 2");
        });
        e.says("Returns that number; INVALID for any other what.", c -> {
            SeatSwap x = crowd();
            for (int what : Edges.outside(0, 2)) {
                c.due("what " + what, x.ifSettled(what), SeatSwap.INVALID);
                c.due("nobody", new SeatSwap().ifSettled(what), SeatSwap.INVALID);
            }
        });
        e.at("promise 33");
        e.plain("Tells what another FIRST would bring.");
        e.says("as for first()", c -> {
            for (int rows = 2; rows <= 10; rows++) {
                SeatSwap x = Texts.loaded("train " + rows + " first 0;");
                for (int first = 0; first <= rows; first++) {
                    c.due("first " + first, x.ifFirst(first), 0);
                }
                for (int first : Edges.outside(0, rows)) {
                    c.due("first " + first, x.ifFirst(first), SeatSwap.INVALID);
                }
            }
        });
        e.says("Returns how many travellers sit where their TICKET would not allow it; INVALID for an invalid "
            + "argument.", c -> {
            SeatSwap x = EdgesOfExchangesTest.all(";");
            for (int first = 0; first <= 10; first++) {
                c.due("first " + first, x.ifFirst(first), Math.min(20, 4 * first));
            }
            c.due("nothing changes", x.value(1) + x.value(16), 0);
            SeatSwap y = EdgesOfExchangesTest.all("ticket;");
            c.due("all have tickets", y.ifFirst(10), 0);
            y.set(19, 4, 0);
            y.set(0, 4, 0);
            c.due("two have none", y.ifFirst(10), 2);
            c.due("one of them in front", y.ifFirst(4), 1);
            SeatSwap now = Texts.loaded("train 4 first 2;seat 7 a ticket;seat 8 b;");
            c.due("as it is", now.ifFirst(2), 0);
            c.due("one more", now.ifFirst(3), 1);
        });
    }
}
