/** The edges that sections 3 to 5 of the document's terms name: exchanges and reasons, stations, the log. */
public final class EdgesOfExchangesTest {
    /** Found by a long search: 100 swaps follow one another, one more than a settling does. */
    static final String LONG = "train 10 first 0;seat 28 a family 6 window +6 row 0 3;"
        + "seat 38 a family 6 window +8 ahead +8 row 0 2;seat 37 a family 6 window +6 ahead +3 row 0 2;"
        + "seat 7 a family 3 window -8 ahead -8 row 4 1;seat 33 a window +6 row 7 1;"
        + "seat 20 a family 9 window -2 ahead +2 row 4 3;seat 0 a family 9 window -1 row 9 1;"
        + "seat 16 a family 3 window -2 ahead -1;seat 30 a family 6 window +8 ahead +8 row 0 1;"
        + "seat 39 a family 3 window -5 ahead -6 row 3 3;seat 18 a family 3 ahead +3 row 8 2;"
        + "seat 21 a family 2 window -1 ahead -3 row 0 1;seat 12 a family 3 ahead -9 row 7 1;"
        + "seat 27 a window -1 row 0 1;seat 13 a family 3 window +1 ahead +3 row 8 2;seat 5 a;"
        + "seat 34 a family 6 window +6 ahead +7 row 0 3;seat 32 a family 9 window +1 ahead +2 row 6 1;"
        + "seat 2 a family 3 window -3 ahead -3 row 9 3;seat 8 a family 2 ahead -2 row 7 3;";

    public static void main(String[] args) {
        Edges edges = new Edges();
        list(edges);
        edges.run("EdgesOfExchangesTest");
    }

    static void list(Edges e) {
        e.at("term 3");
        e.says("An exchange may be refused, for the first of these reasons that it names and that holds",
            EdgesOfExchangesTest::firstReason);
        e.says("(JOYs as they would be behind it):", EdgesOfExchangesTest::joysBehindIt);
        swaps(e);
        moves(e);
        rings(e);
        settling(e);
        stations(e);
        log(e);
    }

    /** Two or more reasons hold each time. */
    private static void firstReason(Check c) {
        SeatSwap x = Texts.loaded("train 4 first 1;seat 0 a ticket window +1 sweets 9;seat 4 b window +1 sweets 2;"
            + "seat 6 d window -1;seat 1 f ticket window -1;seat 5 g window -9 sweets 1;seat 7 h window +1;");
        c.due("1 and 2", x.why(1, 0, 9), 1);
        c.due("1 and 3, for the other one's ticket", x.why(0, 2, 0), 1);
        c.due("1 and 4", x.why(3, 1, 0), 1);
        c.due("2 and 3", x.why(1, 2, 3), 2);
        c.due("2 and 4", x.why(2, 1, 1), 2);
        c.due("2, 3 and 4", x.why(4, 1, 2), 2);
        c.due("3 and 4", x.why(4, 1, 0), 3);
        c.due("4 alone", x.why(0, 3, 9), 3);
        c.due("5 and 1", x.whyMove(1, 0), 5);
        c.due("5 and 6", x.whyMove(1, 6), 5);
        c.due("the own seat in the first class", x.whyMove(0, 0), 5);
        c.due("1 and 6", x.whyMove(1, 2), 1);
        c.due("1 alone", x.whyMove(2, 3), 1);
        c.due("6 alone", x.whyMove(1, 9), 6);
        c.due("1 and 6 of a ring", x.ring(1, 3, 0), -11);
        c.due("1 of a ring by the last one, 6 by the first one", x.ring(0, 3, 2), -11);
        c.due("6 of a ring alone", x.ring(1, 4, 2), -16);
        c.due("refused, as it is told", x.swap(1, 0, 9), -11);
        c.due("refused, as it is told", x.swap(4, 1, 2), -12);
        c.due("refused, as it is told", x.move(1, 6), -15);
        c.due("nothing changed", x.value(16), 0);
    }

    private static void joysBehindIt(Check c) {
        SeatSwap x = Texts.loaded("train 4 first 0;seat 1 a family 1 sweets 9;seat 9 b family 1;seat 10 d family 1;");
        c.due("b loses 4 as a has left", x.why(0, 1, 3), 4);
        c.due("4 for 4", x.why(0, 1, 4), 0);
        c.due("a wins 4, not 8, as b has left", x.why(0, 1, 5), 3);
        SeatSwap y = Texts.loaded("train 4 first 0;seat 1 a family 1;seat 2 b family 1;seat 9 d family 1 ahead +1;");
        c.due("who moves to the other two finds both", y.joyAt(2, 5), 109);
        c.due("from one of the family to one", y.whyMove(1, 10), 0);
        c.due("it is as before", y.move(1, 10), 0);
        SeatSwap z = Texts.loaded("train 4 first 0;seat 1 a family 1;seat 9 b family 1;seat 10 d family 2;seat 2 f;");
        c.due("ring: a comes to b, as b stays at the table", z.ring(0, 1, 2), 8);
        c.due("joy of a", z.of(0, 9), 104);
        c.due("joy of b", z.of(1, 9), 104);
        c.due("the other way they part", z.ring(2, 1, 0), -16);
    }

    private static SeatSwap pair(int likeOfAsker, int sweets, int likeOfOther) {
        return Texts.loaded("train 4 first 0;seat 1 a window " + EdgesOfTermsTest.signed(likeOfAsker) + " sweets "
            + sweets
            + ";seat 0 b window " + EdgesOfTermsTest.signed(likeOfOther) + " sweets 99;");
    }

    private static void swaps(Edges e) {
        e.says("- To swap: a traveller, the asker, and another one exchange their SEATs, and the asker pays some "
            + "SWEETS (0 to 9) to the other one.", c -> {
            for (int sweets = 0; sweets <= 9; sweets++) {
                SeatSwap x = pair(9, 99, 0);
                c.due("swap", x.swap(0, 1, sweets), 109);
                c.due("seats", x.of(0, 0) * 10 + x.of(1, 0), 1);
                c.due("pays", x.of(0, 7), 99 - sweets);
                c.due("gets, above 99 too", x.of(1, 7), 99 + sweets);
            }
            SeatSwap x = pair(9, 99, 0);
            for (int sweets : Edges.outside(0, 9)) {
                c.due("swap for " + sweets, x.swap(0, 1, sweets), SeatSwap.INVALID);
            }
        });
        e.says("Reasons: 1 a TICKET does not allow the SEAT,", c -> {
            for (int first = 0; first <= 4; first++) {
                SeatSwap x = Texts.loaded("train 4 first " + first + ";seat 7 a ticket;seat 15 b"
                    + (first == 4 ? " ticket;" : ";") + "seat 3 d ticket;");
                int due = first == 2 || first == 3 ? 1 : 0;
                c.due("first " + first + ", seat 7", x.why(0, 1, 0), due);
                c.due("first " + first + ", seat 7, asked by b", x.why(1, 0, 0), due);
                c.due("first " + first + ", seat 3", x.why(1, 2, 0), first == 0 || first == 4 ? 0 : 1);
                c.due("both have one", x.why(0, 2, 0), 0);
            }
        });
        e.says("2 the asker has fewer SWEETS,", c -> {
            for (int has = 0; has <= 9; has++) {
                SeatSwap x = pair(9, has, 0);
                for (int sweets = 0; sweets <= 9; sweets++) {
                    c.due("has " + has + ", pays " + sweets, x.why(0, 1, sweets), sweets > has ? 2 : 0);
                }
                c.due("all that it has", x.swap(0, 1, has), 109);
                c.due("nothing is left", x.of(0, 7), 0);
            }
        });
        e.says("3 the JOY of the asker would be greater by less than the SWEETS that are paid (with 0 SWEETS: would "
            + "be less),", c -> {
            for (int rise = -9; rise <= 9; rise++) {
                SeatSwap x = pair(rise, 99, 0);
                for (int sweets = 0; sweets <= 9; sweets++) {
                    c.due("rises by " + rise + ", pays " + sweets, x.why(0, 1, sweets), rise < sweets ? 3 : 0);
                }
            }
        });
        e.says("4 the JOY of the other one would be less by more than these.", c -> {
            for (int loss = -9; loss <= 9; loss++) {
                SeatSwap x = pair(9, 99, loss);
                for (int sweets = 0; sweets <= 9; sweets++) {
                    c.due("loses " + loss + ", gets " + sweets, x.why(0, 1, sweets), loss > sweets ? 4 : 0);
                }
            }
        });
    }

    private static void moves(Edges e) {
        e.says("- To move to a SEAT that is free. Reasons: 5 it is not free (the own SEAT, too), 1, 6 the JOY would "
            + "be less.",
            c -> {
                for (int like = -1; like <= 1; like++) {
                    SeatSwap x = Texts.loaded("train 3 first 1;seat 5 a window " + EdgesOfTermsTest.signed(like)
                        + ";seat 4 b;seat 0 d ticket;seat 11 f;");
                    int window = like < 0 ? 6 : 0;
                    int[] due = {5, 1, 1, 1, 5, 5, 0, window, window, 0, 0, 5};
                    for (int seat = 0; seat < 12; seat++) {
                        c.due("seat " + seat, x.whyMove(0, seat), due[seat]);
                    }
                    c.due("to the window", x.move(0, 7), like < 0 ? -16 : like);
                    c.due("the seat that it has now, or may not have", x.move(0, x.of(0, 0)), -15);
                }
            });
    }

    private static void rings(Edges e) {
        e.says("- To form a ring: the first one goes to the SEAT of the second one, the second one to that of the "
            + "third one, the third one to that of the first one.", c -> {
            int[][] orders = {{0, 1, 2}, {0, 2, 1}, {1, 0, 2}, {1, 2, 0}, {2, 0, 1}, {2, 1, 0}};
            int[] seats = {1, 6, 11};
            for (int[] o : orders) {
                SeatSwap x = Texts.loaded("train 3 first 0;seat 1 a;seat 6 b;seat 11 d;");
                c.due("ring", x.ring(o[0], o[1], o[2]), 0);
                c.due("the first one", x.of(o[0], 0), seats[o[1]]);
                c.due("the second one", x.of(o[1], 0), seats[o[2]]);
                c.due("the third one", x.of(o[2], 0), seats[o[0]]);
            }
        });
        e.says("Reasons: 1, 6 the JOY of one of them would be less.", c -> {
            for (int loser = 0; loser < 3; loser++) {
                for (int like = -1; like <= 1; like++) {
                    String[] seats = {"seat 1 a;", "seat 2 b;"};
                    String there = "seat 0 d window " + EdgesOfTermsTest.signed(like) + ";";
                    String text = "train 4 first 0;" + (loser == 0 ? there + seats[0] + seats[1]
                        : loser == 1 ? seats[0] + there + seats[1] : seats[0] + seats[1] + there);
                    int due = like > 0 ? -16 : -like;
                    c.due(loser + " has a like of " + like, Texts.loaded(text).ring(0, 1, 2), due);
                    c.due("the other way", Texts.loaded(text).ring(0, 2, 1), due);
                }
            }
            SeatSwap tickets = Texts.loaded("train 3 first 1;seat 0 a ticket;seat 4 b;seat 8 d ticket;");
            c.due("the ticket of b as the first one", tickets.ring(1, 0, 2), -11);
            c.due("as the second one", tickets.ring(2, 1, 0), -11);
            c.due("as the third one", tickets.ring(0, 2, 1), -11);
            c.due("the other way", tickets.ring(1, 2, 0), 0);
        });
    }

    private static void settling(Edges e) {
        e.says("To settle: as long as there is a swap for 0 SWEETS that is not refused,", c -> {
            c.due("nobody", new SeatSwap().settle(), SeatSwap.NOT_FOUND);
            c.due("one", Texts.loaded("train 4 first 0;seat 1 a window +9;").settle(), SeatSwap.NOT_FOUND);
            c.due("the other one loses 1", pair(9, 99, 1).settle(), SeatSwap.NOT_FOUND);
            c.due("the other one loses none", pair(9, 99, 0).settle(), 1);
            c.due("the asker loses 1", pair(-1, 99, -9).settle(), SeatSwap.NOT_FOUND);
            c.due("the asker loses none", pair(0, 99, -9).settle(), 1);
            c.due("a ticket", Texts.loaded("train 4 first 1;seat 5 a window +9;seat 0 b ticket;").settle(),
                SeatSwap.NOT_FOUND);
            c.due("no ticket is needed", Texts.loaded("train 4 first 1;seat 5 a window +9;seat 4 b ticket;").settle(),
                1);
        });
        e.says("and by which the sum of the JOYs of all travellers becomes greater,", c -> {
            c.due("the same sum", pair(0, 99, 0).settle(), SeatSwap.NOT_FOUND);
            c.due("greater by 1", pair(1, 99, 0).settle(), 1);
            // By its swap a loses the family, 4, and so does the one who is left, 4 more.
            String text = "seat 8 b;seat 2 d family 1;";
            for (int like = 3; like <= 9; like++) {
                SeatSwap x = Texts.loaded("train 4 first 0;seat 1 a family 1 window +" + like + ";" + text);
                c.due("swap by " + like, x.why(0, 1, 0), like < 4 ? 3 : 0);
                c.due("if it settles by " + like, x.ifSettled(0), like > 8 ? 1 : 0);
                c.due("settle by " + like, x.settle(), like > 8 ? 1 : SeatSwap.NOT_FOUND);
                c.due("sum", x.value(5), like > 8 ? 10009 : 10008);
            }
        });
        e.says("the one by which it becomes greatest is done,", c -> {
            SeatSwap x = Texts.loaded("train 4 first 0;seat 1 a window +8;seat 2 b window +9;seat 0 d;");
            c.due("settle", x.settle(), 1);
            c.due("b has the window, though a is smaller", x.at(0), 1);
            SeatSwap y = Texts.loaded("train 4 first 0;seat 1 a window +8 ahead +1;seat 0 b;seat 7 d;");
            c.due("settle", y.settle(), 1);
            c.due("a has the better window, though b is smaller", y.of(0, 0), 7);
        });
        e.says("of several the one with the smallest asker, of these with the smallest other one;", c -> {
            SeatSwap x = Texts.loaded("train 4 first 0;seat 0 d;seat 1 a window +8;seat 2 b window +8;");
            c.due("settle", x.settle(), 1);
            c.due("a, the smaller one with d", x.of(1, 0), 0);
            SeatSwap y = Texts.loaded("train 4 first 0;seat 1 d;seat 0 a;seat 2 b window +8;seat 3 f;");
            c.due("settle", y.settle(), 1);
            c.due("b with a, the smaller one", y.of(2, 0), 0);
            SeatSwap z = Texts.loaded("train 4 first 0;seat 2 b window +8;seat 3 f;seat 0 a;");
            c.due("settle", z.settle(), 1);
            c.due("b with f, the smaller one", z.of(0, 0), 3);
        });
        e.says("99 at most.", EdgesOfExchangesTest::longSettling);
    }

    private static void longSettling(Check c) {
        SeatSwap x = Texts.loaded(LONG);
        int before = x.value(5);
        c.due("if", x.ifSettled(0), 99);
        int then = x.ifSettled(1);
        int grumblers = x.ifSettled(2);
        c.due("settle", x.settle(), 99);
        c.due("swaps", x.value(8), 99);
        c.due("sum", x.value(5), then);
        c.due("grumblers", x.value(6), grumblers);
        c.dueText("entry", entry(x, 0), "5/99/" + (then - before));
        c.due("if again", x.ifSettled(0), 1);
        int last = x.ifSettled(1);
        c.that("the hundredth swap makes the sum greater, too", last > then);
        c.due("again", x.settle(), 1);
        c.due("swaps", x.value(8), 100);
        c.due("sum", x.value(5), last);
        c.dueText("entry", entry(x, 1), "5/1/" + (last - then));
        c.due("if settled", x.ifSettled(0), 0);
        c.due("settled", x.settle(), SeatSwap.NOT_FOUND);
        c.due("undo", x.undo(), 1);
        c.due("swaps", x.value(8), 99);
        c.due("sum", x.value(5), then);
    }

    private static void stations(Edges e) {
        e.at("term 4");
        e.says("TIME is 0 at first, 999 at most.", c -> {
            SeatSwap x = new SeatSwap();
            c.due("at first", x.value(2), 0);
            for (int i = 1; i <= 19; i++) {
                c.due("station", x.station(50), 0);
                c.due("time", x.value(2), 50 * i);
            }
            c.due("1000", x.station(50), SeatSwap.FULL);
            c.due("998", x.station(48), 0);
            c.due("1000", x.station(2), SeatSwap.FULL);
            c.due("it stays", x.value(2), 998);
            c.due("999", x.station(1), 0);
            c.due("time", x.value(2), 999);
            for (int many = 1; many <= 50; many++) {
                c.due("above 999", x.station(many), SeatSwap.FULL);
            }
            c.due("undo", x.undo(), 7);
            c.due("998 again", x.value(2), 998);
            Texts.load(x, "train 4 first 0;");
            c.due("at first", x.value(2), 0);
        });
        e.says("A station: TIME grows by 1. Then all travellers whose STOP is TIME get off,", c -> {
            SeatSwap x = Texts.loaded("train 4 first 0;seat 0 a stop 1;seat 1 b stop 2;seat 2 d stop 98;"
                + "seat 3 f stop 99;");
            c.due("1", x.station(1), 1);
            c.due("2", x.station(1), 1);
            c.due("up to 52", x.station(50), 0);
            c.due("up to 97", x.station(45), 0);
            c.due("98", x.station(1), 1);
            c.due("f alone", x.value(3), 1);
            Texts.come(x, "late", 0, 0, 0, 0, 98);
            Texts.come(x, "past", 1, 0, 0, 0, 1);
            c.due("99", x.station(1), 1);
            c.due("100 and more", x.station(50), 0);
            c.due("whose stop was stays", x.value(3), 2);
        });
        e.says("the greatest number first; the numbers of those above them become less by 1.", c -> {
            SeatSwap x = all("stop 1;");
            c.due("all", x.station(1), 20);
            c.due("nobody is left", x.value(3), 0);
            for (int i = 0; i < 20; i++) {
                c.due("kind", x.log(i, 0), 4);
                c.due("number", x.log(i, 1), 19 - i);
                c.due("seat", x.log(i, 2), 19 - i);
            }
            SeatSwap y = Texts.loaded("train 4 first 0;seat 8 a stop 2;seat 9 b;seat 10 d stop 1;seat 11 f stop 2;"
                + "seat 7 g;");
            c.due("two stations", y.station(2), 3);
            c.dueText("their entries", entry(y, 0) + " " + entry(y, 1) + " " + entry(y, 2), "4/2/10 4/2/11 4/0/8");
            c.due("b is 0", y.of(0, 0), 9);
            c.due("g is 1", y.of(1, 0), 7);
            c.due("no more", y.of(2, 0), SeatSwap.INVALID);
        });
    }

    /** Twenty travellers on the seats 0 to 19 of ten rows. */
    static SeatSwap all(String part) {
        StringBuilder text = new StringBuilder("train 10 first 0;");
        for (int seat = 0; seat < 20; seat++) {
            text.append("seat ").append(seat).append(" ").append((char) ('a' + seat)).append(" ").append(part);
        }
        return Texts.loaded(text.toString());
    }

    static String entry(SeatSwap x, int i) {
        return x.log(i, 0) + "/" + x.log(i, 1) + "/" + x.log(i, 2);
    }

    private static void log(Edges e) {
        e.at("term 5");
        e.says("The log has the latest 40 entries, each with a kind and two numbers:", EdgesOfExchangesTest::forty);
        e.says("0 a traveller comes (the number, the SEAT),", c -> {
            SeatSwap x = Texts.loaded("train 10 first 0;");
            for (int t = 0; t < 20; t++) {
                Texts.come(x, "a", 39 - 2 * t, 0, 0, 0, 1);
            }
            c.dueText("the first one", entry(x, 0), "0/0/39");
            c.dueText("the last one", entry(x, 19), "0/19/1");
        });
        e.says("1 a swap (100 times the asker plus the other one, SWEETS),", c -> {
            SeatSwap x = all("sweets 9;");
            x.swap(19, 18, 0);
            x.swap(0, 19, 0);
            x.swap(19, 0, 0);
            c.dueText("19 and 18", entry(x, 0), "1/1918/0");
            c.dueText("0 and 19", entry(x, 1), "1/19/0");
            c.dueText("19 and 0", entry(x, 2), "1/1900/0");
            c.due("19 at 0", x.of(19, 0), 18);
            SeatSwap y = pair(9, 99, 0);
            y.swap(0, 1, 9);
            c.dueText("for 9", entry(y, 0), "1/1/9");
        });
        e.says("2 a move (the traveller, the former SEAT),", c -> {
            SeatSwap x = all(";");
            x.move(19, 39);
            x.move(19, 20);
            x.move(0, 39);
            x.move(19, 0);
            c.dueText("from 19", entry(x, 0), "2/19/19");
            c.dueText("from 39", entry(x, 1), "2/19/39");
            c.dueText("from 0", entry(x, 2), "2/0/0");
            c.dueText("from 20", entry(x, 3), "2/19/20");
        });
        e.says("3 a ring (10000 times the first one plus 100 times the second one plus the third one, 0),", c -> {
            SeatSwap x = all(";");
            x.ring(19, 18, 17);
            x.ring(0, 1, 19);
            x.ring(19, 0, 1);
            x.ring(1, 19, 0);
            c.dueText("the greatest ones", entry(x, 0), "3/191817/0");
            c.dueText("the smallest ones", entry(x, 1), "3/119/0");
            c.dueText("as they are named", entry(x, 2), "3/190001/0");
            c.dueText("as they are named", entry(x, 3), "3/11900/0");
        });
        e.says("4 a traveller gets off (the number, the SEAT),", c -> {
            SeatSwap x = Texts.loaded("train 10 first 0;seat 39 a stop 1;seat 0 b stop 2;");
            x.station(2);
            c.dueText("from 39", entry(x, 0), "4/0/39");
            c.dueText("from 0, with the number that it had then", entry(x, 1), "4/0/0");
        });
        e.says("5 the train settles (how many swaps, by how much the sum of the JOYs rose; its swaps have no entries),",
            c -> {
            SeatSwap x = Texts.loaded("train 4 first 0;seat 1 a window +9;seat 0 b window -9;seat 5 d window +9;"
                + "seat 4 f;");
            c.due("settle", x.settle(), 2);
            c.dueText("entry", entry(x, 0), "5/2/27");
            c.due("entries", x.value(15), 1);
            c.due("settled", x.settle(), SeatSwap.NOT_FOUND);
            c.due("no entry", x.value(15), 1);
        });
        e.says("6 a like or a TICKET is set (10 times the traveller plus what, the former number itself),", c -> {
            SeatSwap x = all("window -9 ahead -1 row 9 3;");
            x.set(19, 0, 9);
            x.set(19, 1, 0);
            x.set(19, 2, 0);
            x.set(19, 3, 0);
            x.set(19, 4, 1);
            x.set(19, 4, 0);
            x.set(0, 0, 9);
            String[] due = {"6/190/-9", "6/191/-1", "6/192/9", "6/193/3", "6/194/0", "6/194/1", "6/0/-9"};
            for (int i = 0; i < due.length; i++) {
                c.dueText("entry " + i, entry(x, i), due[i]);
            }
        });
        e.says("7 FIRST is set (0, the former one).", c -> {
            SeatSwap x = Texts.loaded("train 10 first 10;");
            x.first(0);
            x.first(10);
            c.dueText("from 10", entry(x, 0), "7/0/10");
            c.dueText("from 0", entry(x, 1), "7/0/0");
        });
    }

    private static void forty(Check c) {
        SeatSwap x = Texts.loaded("train 10 first 0;seat 0 a;");
        for (int i = 1; i <= 130; i++) {
            x.move(0, i % 40);
            int many = i < 40 ? i : 40;
            if (i <= 2 || i % 40 <= 1 || i % 40 == 39) {
                c.due("entries after " + i, x.value(15), many);
                c.dueText("the oldest one", entry(x, 0), "2/0/" + (i - many) % 40);
                c.dueText("the latest one", entry(x, many - 1), "2/0/" + (i - 1) % 40);
                c.due("one more", x.log(many, 0), SeatSwap.NOT_FOUND);
            }
        }
        SeatSwap y = all("stop 9;");
        for (int i = 0; i < 25; i++) {
            y.move(0, 20 + i % 20);
        }
        c.due("25", y.value(15), 25);
        c.due("all get off", y.station(9), 20);
        c.due("40", y.value(15), 40);
        c.dueText("five are gone", entry(y, 0), "2/0/24");
        c.dueText("the last move", entry(y, 19), "2/0/" + (20 + 23 % 20));
        c.dueText("the first one off", entry(y, 20), "4/19/19");
        c.dueText("the last one off", entry(y, 39), "4/0/24");
    }
}
