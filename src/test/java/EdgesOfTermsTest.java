/** The edges that sections 1 and 2 of the document's terms name: the train, its travellers, their joys. */
public final class EdgesOfTermsTest {
    public static void main(String[] args) {
        Edges edges = new Edges();
        list(edges);
        edges.run("EdgesOfTermsTest");
    }

    static void list(Edges e) {
        e.at("what");
        e.plain("A train of strangers who exchange seats: rows of four seats that look forward or back, tables that "
            + "two rows share, tickets of two classes, families, likes and dislikes, joys, swaps that are paid with "
            + "sweets, moves to free seats, rings of three, a settling by which joys rise, stations where travellers "
            + "get off, grumbles by table, ranks, reasons, and what other seats, prices and tickets would bring.");
        e.at("term 0");
        e.says("Each traveller has one seat.", EdgesOfTermsTest::oneSeat);
        train(e);
        travellers(e);
        joys(e);
    }

    private static void oneSeat(Check c) {
        SeatSwap x = Texts.loaded("train 3 first 0;seat 0 a sweets 9;seat 11 b;seat 5 d;seat 6 e stop 1;");
        x.swap(0, 1, 0);
        x.move(2, 7);
        x.ring(0, 1, 2);
        x.station(1);
        x.ring(2, 1, 0);
        x.undo();
        x.undo();
        int taken = 0;
        for (int seat = 0; seat < 12; seat++) {
            int t = x.at(seat);
            taken += t >= 0 ? 1 : 0;
            c.that("seat " + seat, t == SeatSwap.NOT_FOUND || x.of(t, 0) == seat);
        }
        c.due("seats that are taken", taken, 4);
    }

    private static void train(Edges e) {
        e.at("term 1");
        e.says("The train has 2 to 10 ROWS, numbered from 0, of four seats each;", c -> {
            for (int rows = 0; rows <= 99; rows++) {
                SeatSwap x = new SeatSwap();
                boolean right = rows >= 2 && rows <= 10;
                c.due("rows " + rows, Texts.load(x, "train " + rows + " first 0;"), right ? 0 : SeatSwap.INVALID);
                c.due("error", x.errorPosition(), right ? SeatSwap.NOT_FOUND : 6);
                int there = right ? rows : 4;
                c.due("rows", x.value(0), there);
                c.due("free seats", x.value(4), 4 * there);
                c.due("last seat", x.at(4 * there - 1), SeatSwap.NOT_FOUND);
                c.due("one more", x.at(4 * there), SeatSwap.INVALID);
            }
        });
        e.says("a SEAT has the number 4 times its row plus its column (0 to 3).", c -> {
            SeatSwap x = Texts.loaded("train 10 first 0;seat 0 a;");
            for (int seat = 1; seat < 40; seat++) {
                c.due("move", x.move(0, seat), 0);
                c.due("seat", x.of(0, 0), seat);
                c.due("in the plan", x.planByte(7 * (seat / 4) + 2 + seat % 4), 'a');
            }
            c.due("no more seats", x.move(0, 40), SeatSwap.INVALID);
        });
        e.says("The columns 0 and 3 are at the WINDOW.", c -> {
            SeatSwap x = Texts.loaded("train 10 first 0;seat 0 a window -9;");
            for (int seat = 0; seat < 40; seat++) {
                c.due("joy", x.joyAt(0, seat), seat % 4 == 0 || seat % 4 == 3 ? 91 : 100);
            }
        });
        e.says("Odd rows look FORWARD.", c -> {
            SeatSwap x = Texts.loaded("train 10 first 0;seat 0 a ahead -9;");
            for (int seat = 0; seat < 40; seat++) {
                c.due("joy", x.joyAt(0, seat), seat / 4 % 2 == 1 ? 91 : 100);
                c.due("plan", x.planByte(7 * (seat / 4) + 1), seat / 4 % 2 == 1 ? '>' : '<');
            }
        });
        e.says("The rows 2 k and 2 k plus 1 share the TABLE k (the last one may have one row alone).",
            EdgesOfTermsTest::tables);
        e.says("The rows below FIRST (0 to ROWS) are of the first class.", EdgesOfTermsTest::firstClass);
    }

    private static void tables(Check c) {
        for (int rows = 2; rows <= 10; rows++) {
            SeatSwap x = Texts.loaded("train " + rows + " first 0;seat 1 a family 1;seat 2 b family 1;");
            for (int seat = 0; seat < 4 * rows; seat++) {
                c.due("joy at " + seat, x.joyAt(0, seat), seat / 4 < 2 ? 104 : 100);
            }
            int last = 4 * rows - 4;
            SeatSwap y = Texts.loaded("train " + rows + " first 0;seat " + last + " a family 1;seat " + (last + 1)
                + " b family 1;seat " + (last + 2) + " c family 1;seat " + (last + 3) + " d family 1;");
            int tables = rows % 2 == 0 ? rows / 2 : rows / 2 + 1;
            c.due("tables", y.value(13), tables);
            c.due("the last one", y.table(tables - 1, 0), 4);
            c.due("one more", y.table(tables, 0), SeatSwap.INVALID);
            c.due("joy in the last row", y.of(3, 9), 112);
            c.due("joy in the row ahead", y.joyAt(3, last - 1), rows % 2 == 0 ? 112 : 100);
        }
    }

    private static void firstClass(Check c) {
        for (int rows = 2; rows <= 10; rows++) {
            for (int first = 0; first <= rows; first++) {
                SeatSwap x = Texts.loaded("train " + rows + " first " + first + ";");
                c.due("first", x.value(1), first);
                for (int row = 0; row < rows; row++) {
                    c.due("plan", x.planByte(7 * row), row < first ? '=' : '-');
                    Texts.put(x, "a");
                    int due = row < first ? SeatSwap.BARRED : 0;
                    c.due("seat " + 4 * row, x.come(4 * row, 0, 0, 0, 1), due);
                    if (due == 0) {
                        x.undo();
                        Texts.put(x, "a");
                    }
                    c.due("seat " + (4 * row + 3), x.come(4 * row + 3, 0, 0, 0, 1), due);
                    x.undo();
                    x.truncate(1);
                }
            }
            SeatSwap x = new SeatSwap();
            c.due("first above", Texts.load(x, "train " + rows + " first " + (rows + 1) + ";"), SeatSwap.INVALID);
            c.due("error", x.errorPosition(), rows < 10 ? 14 : 15);
        }
    }

    private static void travellers(Edges e) {
        e.at("term 2");
        e.says("There are up to 20 travellers, numbered from 0 in the order in which they came,",
            EdgesOfTermsTest::twenty);
        e.says("each with a name (1 to 5 letters a to z),", EdgesOfTermsTest::names);
        e.says("a TICKET (1 first class, 0 not),", c -> {
            for (int ticket = 0; ticket <= 1; ticket++) {
                SeatSwap x = new SeatSwap();
                c.due("come", Texts.come(x, "a", 4, ticket, 0, 0, 1), 0);
                c.due("ticket", x.of(0, 1), ticket);
                c.due("to the first class", x.whyMove(0, 0), ticket == 1 ? 0 : 1);
            }
            for (int ticket : Edges.outside(0, 1)) {
                c.due("come", Texts.come(new SeatSwap(), "a", 4, ticket, 0, 0, 1), SeatSwap.INVALID);
            }
        });
        e.says("a FAMILY (1 to 9; 0 none),", c -> {
            for (int family = 0; family <= 9; family++) {
                SeatSwap x = new SeatSwap();
                c.due("come", Texts.come(x, "a", 4, 0, family, 0, 1), 0);
                c.due("come", Texts.come(x, "b", 5, 0, family, 0, 1), 1);
                c.due("family", x.of(1, 2), family);
                c.due("joy", x.of(1, 9), family == 0 ? 100 : 104);
                c.due("families", x.value(14), family == 0 ? 0 : 1);
            }
            for (int family : Edges.outside(0, 9)) {
                c.due("come", Texts.come(new SeatSwap(), "a", 4, 0, family, 0, 1), SeatSwap.INVALID);
            }
        });
        e.says("four LIKES: of the window (-9 to 9), of looking forward (-9 to 9),", c -> {
            for (int what = 0; what <= 1; what++) {
                SeatSwap x = Texts.loaded("train 4 first 0;seat 4 a window -9 ahead -9;");
                for (int like = -8; like <= 9; like++) {
                    c.due("set", x.set(0, what, like), like - 1 + 9);
                    c.due("like", x.of(0, 3 + what), like + 9);
                }
                for (int like : Edges.outside(-9, 9)) {
                    c.due("set " + like, x.set(0, what, like), SeatSwap.INVALID);
                }
                c.due("like", x.of(0, 3 + what), 18);
            }
        });
        e.says("a ROW (0 to ROWS less 1), and how much it PULLS (0 to 3);", c -> {
            for (int rows = 2; rows <= 10; rows++) {
                SeatSwap x = Texts.loaded("train " + rows + " first 0;seat 4 a;");
                for (int row = 1; row < rows; row++) {
                    c.due("row", x.set(0, 2, row), row - 1);
                    c.due("row", x.of(0, 5), row);
                }
                for (int row : Edges.outside(0, rows - 1)) {
                    c.due("row " + row, x.set(0, 2, row), SeatSwap.INVALID);
                }
                for (int pulls = 1; pulls <= 3; pulls++) {
                    c.due("pulls", x.set(0, 3, pulls), pulls - 1);
                    c.due("pulls", x.of(0, 6), pulls);
                }
                for (int pulls : Edges.outside(0, 3)) {
                    c.due("pulls " + pulls, x.set(0, 3, pulls), SeatSwap.INVALID);
                }
            }
        });
        e.says("SWEETS (0 to 99), a STOP (1 to 99), and a SEAT.", c -> {
            for (int number = 1; number <= 99; number++) {
                SeatSwap x = new SeatSwap();
                c.due("come", Texts.come(x, "a", 4, 0, 0, number, number), 0);
                c.due("sweets", x.of(0, 7), number);
                c.due("stop", x.of(0, 8), number);
            }
            for (int sweets : Edges.outside(0, 99)) {
                c.due("sweets " + sweets, Texts.come(new SeatSwap(), "a", 4, 0, 0, sweets, 1), SeatSwap.INVALID);
            }
            for (int stop : Edges.outside(1, 99)) {
                c.due("stop " + stop, Texts.come(new SeatSwap(), "a", 4, 0, 0, 0, stop), SeatSwap.INVALID);
            }
            for (int seat : Edges.outside(0, 15)) {
                c.due("seat " + seat, Texts.come(new SeatSwap(), "a", seat, 1, 0, 0, 1), SeatSwap.INVALID);
            }
            c.due("no sweets", Texts.come(new SeatSwap(), "a", 15, 0, 0, 0, 1), 0);
        });
        e.says("A traveller with the TICKET 0 cannot sit in the first class;", EdgesOfTermsTest::noTicket);
        e.says("no two have the same SEAT.", c -> {
            SeatSwap x = Texts.loaded("train 2 first 0;seat 0 a;seat 7 b;");
            Texts.put(x, "c");
            c.due("come", x.come(0, 0, 0, 0, 1), SeatSwap.BARRED);
            c.due("come", x.come(7, 1, 0, 0, 1), SeatSwap.BARRED);
            c.due("move", x.move(0, 7), -15);
            c.due("move", x.move(1, 0), -15);
            c.due("travellers", x.value(3), 2);
            SeatSwap y = new SeatSwap();
            c.due("load", Texts.load(y, "train 2 first 0;seat 0 a;seat 7 b;seat 0 c;"), SeatSwap.INVALID);
            c.due("error", y.errorPosition(), 39);
        });
    }

    private static void twenty(Check c) {
        SeatSwap x = Texts.loaded("train 10 first 0;");
        for (int t = 0; t < 20; t++) {
            c.due("comes", Texts.come(x, "" + (char) ('a' + t), 39 - t, 0, 0, 0, t == 7 ? 1 : 99), t);
        }
        Texts.put(x, "u");
        c.due("one more", x.come(0, 0, 0, 0, 99), SeatSwap.FULL);
        c.due("as many", x.value(3), 20);
        for (int t = 0; t < 20; t++) {
            c.due("order", x.letter(t, 0), t + 1);
            c.due("seat", x.of(t, 0), 39 - t);
        }
        c.due("number 20", x.of(20, 0), SeatSwap.INVALID);
        c.due("one gets off", x.station(1), 1);
        c.due("number 19", x.of(19, 0), SeatSwap.INVALID);
        c.due("room again", x.come(0, 0, 0, 0, 99), 19);
        c.due("the new one", x.letter(19, 0), 21);
        c.due("the one before", x.letter(18, 0), 20);
        Texts.put(x, "v");
        c.due("full again", x.come(1, 0, 0, 0, 99), SeatSwap.FULL);
    }

    private static void names(Check c) {
        for (int one = 0; one < 256; one++) {
            boolean letter = one >= 'a' && one <= 'z';
            SeatSwap x = new SeatSwap();
            c.due("byte " + one, Texts.come(x, "" + (char) one, 4, 0, 0, 0, 1), letter ? 0 : SeatSwap.INVALID);
            c.due("letter", x.letter(0, 0), letter ? one - 'a' + 1 : SeatSwap.INVALID);
            SeatSwap y = new SeatSwap();
            c.due("behind a letter: " + one, Texts.come(y, "q" + (char) one, 4, 0, 0, 0, 1),
                letter ? 0 : SeatSwap.INVALID);
        }
        for (int length = 0; length <= 1000; length += length < 20 ? 1 : 245) {
            SeatSwap x = new SeatSwap();
            String name = "z".repeat(length);
            boolean right = length >= 1 && length <= 5;
            c.due("length " + length, Texts.come(x, name, 4, 0, 0, 0, 1), right ? 0 : SeatSwap.INVALID);
            c.dueText("name", Texts.name(x, 0), right ? name : "");
            c.due("tape", x.truncate(0), right ? 0 : length);
        }
    }

    private static void noTicket(Check c) {
        SeatSwap x = Texts.loaded("train 4 first 2;seat 8 a;seat 7 b ticket;seat 0 d ticket;");
        Texts.put(x, "e");
        c.due("come to the last seat of it", x.come(6, 0, 0, 0, 1), SeatSwap.BARRED);
        c.due("move to the last seats of it", x.move(0, 6), -11);
        c.due("move to its first seat", x.move(0, 1), -11);
        c.due("swap", x.swap(0, 1, 0), -11);
        c.due("swap, asked by the other one", x.swap(1, 0, 0), -11);
        c.due("ring", x.ring(0, 1, 2), -11);
        c.due("ring", x.ring(0, 2, 1), -11);
        c.due("first", x.first(3), SeatSwap.BARRED);
        c.due("the ticket of b", x.set(1, 4, 0), SeatSwap.BARRED);
        c.due("the ticket of d", x.set(2, 4, 0), SeatSwap.BARRED);
        c.due("nothing changed", x.value(16), 0);
        c.due("come behind it", x.come(9, 0, 0, 0, 1), 3);
        c.due("move behind it", x.move(0, 10), 0);
        SeatSwap y = new SeatSwap();
        c.due("load", Texts.load(y, "train 4 first 2;seat 7 a;"), SeatSwap.INVALID);
        c.due("load behind it", Texts.load(y, "train 4 first 2;seat 8 a;"), 1);
    }

    private static void joys(Edges e) {
        e.says("The JOY of a traveller in a SEAT is: the like of the window, if it is at the WINDOW, plus the like of "
            + "looking forward, if its row looks FORWARD,", c -> {
            int[] likes = {-9, -1, 0, 1, 9};
            for (int window : likes) {
                for (int ahead : likes) {
                    SeatSwap x = Texts.loaded("train 2 first 0;seat 0 a window " + signed(window) + " ahead "
                        + signed(ahead) + ";");
                    int[] due = {window, 0, 0, window, window + ahead, ahead, ahead, window + ahead};
                    for (int seat = 0; seat < 8; seat++) {
                        c.due("joy at " + seat, x.joyAt(0, seat), 100 + due[seat]);
                    }
                    c.due("joy", x.of(0, 9), 100 + window);
                }
            }
        });
        e.says("less PULLS times the difference of its row and the ROW (without its sign),", c -> {
            for (int pulls = 0; pulls <= 3; pulls++) {
                for (int wanted : new int[] {0, 4, 9}) {
                    SeatSwap x = Texts.loaded("train 10 first 0;seat 1 a row " + wanted + " " + pulls + ";");
                    for (int row = 0; row < 10; row++) {
                        int apart = row > wanted ? row - wanted : wanted - row;
                        c.due("joy in row " + row, x.joyAt(0, 4 * row + 2), 100 - pulls * apart);
                    }
                }
            }
        });
        e.says("plus 4 for each other traveller of the same FAMILY (not 0) with a SEAT at the same TABLE.", c -> {
            for (int family = 0; family <= 9; family++) {
                SeatSwap x = Texts.loaded("train 4 first 0;");
                for (int t = 0; t < 8; t++) {
                    Texts.come(x, "a", t, 0, family, 0, 1);
                    c.due("joy of the last one", x.of(t, 9), family == 0 ? 100 : 100 + 4 * t);
                    c.due("joy of the first one", x.of(0, 9), family == 0 ? 100 : 100 + 4 * t);
                }
                Texts.come(x, "b", 8, 0, family, 0, 1);
                c.due("joy at another table", x.of(8, 9), 100);
                c.due("joys of all", x.value(5), family == 0 ? 10000 : 10000 + 8 * 28);
            }
        });
        e.says("Who has a JOY below 0 GRUMBLES.", c -> {
            for (int like = -9; like <= 9; like++) {
                SeatSwap x = Texts.loaded("train 2 first 0;seat 0 a window " + signed(like) + ";");
                c.due("grumblers", x.value(6), like < 0 ? 1 : 0);
                c.due("at the table", x.table(0, 1), like < 0 ? 1 : 0);
                c.due("in the plan", x.planByte(2), like < 0 ? 'A' : 'a');
            }
            SeatSwap least = Texts.loaded("train 10 first 0;seat 39 a window -9 ahead -9 row 0 3;");
            c.due("the least joy", least.of(0, 9), 100 - 45);
            c.due("grumbles", least.value(6), 1);
            SeatSwap most = Texts.loaded("train 2 first 0;seat 7 a family 1 window +9 ahead +9;seat 0 a family 1;"
                + "seat 1 a family 1;seat 2 a family 1;seat 3 a family 1;seat 4 a family 1;seat 5 a family 1;"
                + "seat 6 a family 1;");
            c.due("the greatest joy", most.of(0, 9), 100 + 46);
        });
    }

    static String signed(int like) {
        return like < 0 ? "" + like : "+" + like;
    }
}
