/** The edges that the promises 34 to 40 name: the log, rates, the plan and the setup text. */
public final class EdgesOfRatesTest {
    private static final int MIN = Integer.MIN_VALUE;
    private static final int MAX = Integer.MAX_VALUE;

    public static void main(String[] args) {
        Edges edges = new Edges();
        list(edges);
        edges.run("EdgesOfRatesTest");
    }

    static void list(Edges e) {
        log(e);
        rates(e);
        plan(e);
        setup(e);
    }

    private static void log(Edges e) {
        e.at("promise 34");
        e.plain("Returns a part of an entry of the log (section 5).");
        e.says("index, from 0 for the oldest one that is kept", c -> {
            SeatSwap x = Texts.loaded("train 10 first 0;seat 0 a;");
            for (int i = 1; i <= 45; i++) {
                x.move(0, i % 40);
                int oldest = Math.max(0, i - 40);
                c.due("oldest", x.log(0, 2), oldest % 40);
                c.due("latest", x.log(Math.min(i, 40) - 1, 2), (i - 1) % 40);
                c.due("behind it", x.log(Math.min(i, 40), 2), SeatSwap.NOT_FOUND);
            }
            for (int i = 0; i < 40; i++) {
                c.due("entry " + i, x.log(i, 2), (5 + i) % 40);
            }
        });
        e.says("0 its kind, 1 its first number, 2 its second number", c -> {
            SeatSwap x = new SeatSwap();
            Texts.come(x, "a", 15, 0, 0, 0, 1);
            Texts.come(x, "b", 7, 0, 0, 0, 1);
            c.dueText("entry", EdgesOfExchangesTest.entry(x, 1), "0/1/7");
            for (int what : Edges.outside(0, 2)) {
                c.due("what " + what, x.log(0, what), SeatSwap.INVALID);
            }
        });
        e.says("Returns that part; INVALID for a negative i or any other what; NOT_FOUND if there are not so many.",
            c -> {
            SeatSwap x = new SeatSwap();
            c.due("none", x.log(0, 0), SeatSwap.NOT_FOUND);
            c.due("none, any other what", x.log(0, 3), SeatSwap.INVALID);
            c.due("negative", x.log(-1, 0), SeatSwap.INVALID);
            for (int i = 1; i <= 41; i++) {
                x.first(i % 2 == 1 ? 2 : 1);
                for (int beyond : new int[] {Math.min(i, 40), 41, 80, MAX - 40, MAX / 3, MAX / 3 + 1, MAX}) {
                    c.due("entry " + beyond, x.log(beyond, 0), SeatSwap.NOT_FOUND);
                }
            }
            for (int i : new int[] {-1, -2, -39, -40, -41, MIN, MIN + 1}) {
                for (int what = 0; what <= 2; what++) {
                    c.due("entry " + i, x.log(i, what), SeatSwap.INVALID);
                }
            }
            c.due("any other what before none", x.log(40, 3), SeatSwap.INVALID);
            SeatSwap y = Texts.loaded("train 4 first 0;seat 0 a window -2 ahead -1;");
            y.set(0, 0, 0);
            y.set(0, 1, 0);
            c.due("a part that is as NOT_FOUND is", y.log(0, 2), -2);
            c.due("a part that is as INVALID is", y.log(1, 2), -1);
        });
    }

    private static void rates(Edges e) {
        e.at("promise 35");
        e.plain("Returns the share of SEATs that are taken.");
        e.says("Returns the number of travellers, as a float, divided by 4 times ROWS, as a float.", c -> {
            for (int rows = 2; rows <= 10; rows++) {
                SeatSwap x = Texts.loaded("train " + rows + " first 0;");
                c.dueNumber("none", x.full(), 0.0f);
                for (int many = 1; many <= Math.min(20, 4 * rows); many++) {
                    Texts.come(x, "a", many - 1, 0, 0, 0, 1);
                    c.dueNumber(many + " of " + rows, x.full(), (float) many / (float) (4 * rows));
                }
            }
        });
        e.at("promise 36");
        e.plain("Returns the mean JOY.");
        e.says("Returns the sum of all JOYs, as a double, divided by the number of travellers, as a double; 0 without "
            + "any.", c -> {
            c.dueNumber("nobody", new SeatSwap().meanJoy(), 0.0);
            for (int many = 1; many <= 20; many++) {
                for (int joy = -1; joy <= 1; joy++) {
                    StringBuilder text = new StringBuilder("train 10 first 0;");
                    for (int t = 0; t < many; t++) {
                        text.append("seat ").append(2 * t).append(" a").append(t == 0 ? " window "
                            + EdgesOfTermsTest.signed(joy) : "").append(";");
                    }
                    c.dueNumber(joy + " for " + many, Texts.loaded(text.toString()).meanJoy(),
                        (double) joy / (double) many);
                }
            }
            SeatSwap x = Texts.loaded("train 10 first 0;seat 39 a window -9 ahead -9 row 0 3 stop 1;");
            c.dueNumber("least", x.meanJoy(), -45.0);
            x.station(1);
            c.dueNumber("nobody is left", x.meanJoy(), 0.0);
        });
    }

    private static void plan(Edges e) {
        e.at("promise 37");
        e.says("Returns the length of the plan: for each row a line: an equals sign (byte 61) if it is of the first "
            + "class, otherwise a hyphen (byte 45), a greater-than sign (byte 62) if it looks FORWARD, otherwise a "
            + "smaller-than sign (byte 60),", c -> {
            for (int rows = 2; rows <= 10; rows++) {
                for (int first = 0; first <= rows; first += first == 0 ? 1 : rows - 1) {
                    SeatSwap x = Texts.loaded("train " + rows + " first " + first + ";");
                    StringBuilder due = new StringBuilder();
                    for (int row = 0; row < rows; row++) {
                        due.append((char) (row < first ? 61 : 45)).append((char) (row % 2 == 1 ? 62
                            : 60)).append("....\n");
                    }
                    c.dueText("plan", Texts.plan(x), due.toString());
                }
            }
        });
        e.says("then for each SEAT the first letter of the name of who has it, as a capital letter (A to Z) if the "
            + "traveller GRUMBLES, or a full stop (byte 46) if it is free; and a line feed (byte 10).", c -> {
            for (int letter = 0; letter < 26; letter++) {
                String name = "" + (char) ('a' + letter);
                for (int seat = 0; seat < 40; seat += 13) {
                    for (int joy = -1; joy <= 1; joy++) {
                        SeatSwap x = Texts.loaded("train 10 first 0;seat " + seat + " " + name + "xyz window "
                            + EdgesOfTermsTest.signed(joy) + " ahead " + EdgesOfTermsTest.signed(joy) + " row "
                            + seat / 4
                            + " 3;");
                        boolean grumbles = joy < 0 && x.value(6) == 1;
                        c.due("letter", x.planByte(seat / 4 * 7 + 2 + seat % 4), (grumbles ? 'A' : 'a') + letter);
                        c.due("free", x.planByte(7 * 4 + 2), 46);
                        c.due("line feed", x.planByte(seat / 4 * 7 + 6), 10);
                    }
                }
            }
            SeatSwap grumbler = Texts.loaded("train 2 first 0;seat 7 zoe window -1;seat 0 abe window -1;");
            c.dueText("plan", Texts.plan(grumbler), "-<A...\n->...Z\n");
        });
        e.says("Returns the number of bytes.", c -> {
            for (int rows = 2; rows <= 10; rows++) {
                c.due("rows " + rows, Texts.loaded("train " + rows + " first 0;seat 0 a;").planLength(), 7 * rows);
            }
        });
        e.at("promise 38");
        e.plain("Returns a byte of the plan.");
        e.says("position, from 0", c -> {
            SeatSwap x = Texts.loaded("train 2 first 1;seat 0 a ticket;seat 7 b;");
            String due = "=<a...\n->...b\n";
            for (int i = 0; i < due.length(); i++) {
                c.due("byte " + i, x.planByte(i), due.charAt(i));
            }
        });
        e.says("Returns the byte; INVALID for a negative i; NOT_FOUND if the plan is not so long.", c -> {
            for (int rows = 2; rows <= 10; rows++) {
                SeatSwap x = Texts.loaded("train " + rows + " first 0;");
                c.due("last", x.planByte(7 * rows - 1), 10);
                for (int i : new int[] {7 * rows, 7 * rows + 1, 71, 256, 65536, MAX}) {
                    c.due("byte " + i, x.planByte(i), SeatSwap.NOT_FOUND);
                }
                for (int i : new int[] {-1, -2, -7, -256, MIN, MIN + 1}) {
                    c.due("byte " + i, x.planByte(i), SeatSwap.INVALID);
                }
            }
        });
    }

    private static void same(Check c, String text) {
        SeatSwap x = Texts.loaded(text);
        c.due("length", x.setupLength(), text.length());
        c.dueText("setup", Texts.setup(x), text);
        c.due("behind it", x.setupByte(text.length()), SeatSwap.NOT_FOUND);
    }

    private static void setup(Edges e) {
        e.at("promise 39");
        e.says("Returns the length of the setup text that describes ROWS, FIRST and the travellers, by numbers", c -> {
            for (int rows = 2; rows <= 10; rows++) {
                for (int first = 0; first <= rows; first++) {
                    same(c, "train " + rows + " first " + first + ";");
                }
            }
            same(c, "train 4 first 0;seat 15 a;seat 0 b;seat 7 d;");
            SeatSwap x = Texts.loaded("train 4 first 0;seat 15 a stop 1;seat 0 b;seat 7 d;");
            x.station(1);
            x.swap(0, 1, 0);
            c.dueText("without TIME, with the new numbers", Texts.setup(x), "train 4 first 0;seat 7 b;seat 0 d;");
        });
        e.says("(parts whose numbers are as without them are left out;", c -> {
            String[] parts = {" ticket", " family 1", " window -1", " ahead +1", " row 1 1", " sweets 1", " stop 98"};
            for (int choice = 0; choice < 128; choice++) {
                StringBuilder text = new StringBuilder("train 4 first 0;seat 10 abc");
                for (int i = 0; i < 7; i++) {
                    text.append((choice >> i & 1) == 1 ? parts[i] : "");
                }
                same(c, text + ";");
            }
            SeatSwap x = Texts.loaded("train 4 first 0;seat 0 a window +0 ahead -0 row 0 0 sweets 0 stop 99;");
            c.dueText("as without", Texts.setup(x), "train 4 first 0;seat 0 a;");
            for (int stop = 1; stop <= 99; stop++) {
                SeatSwap y = new SeatSwap();
                Texts.come(y, "a", 4, 0, 0, 0, stop);
                c.due("stop " + stop, y.setupLength(), stop == 99 ? 25 : stop < 10 ? 32 : 33);
            }
        });
        e.says("SWEETS that are above 99 are told as they are;", c -> {
            SeatSwap x = Texts.loaded("train 4 first 0;seat 1 a window +9 sweets 9;seat 0 b sweets 99;");
            x.swap(0, 1, 9);
            c.dueText("above 99", Texts.setup(x), "train 4 first 0;seat 0 a window +9;seat 1 b sweets 108;");
            c.due("length", x.setupLength(), 55);
            SeatSwap y = new SeatSwap();
            c.due("no setup to load", Texts.load(y, Texts.setup(x)), SeatSwap.INVALID);
            c.due("error", y.errorPosition(), 51);
            SeatSwap z = Texts.loaded("train 4 first 0;seat 1 a window +9 sweets 9;seat 0 b sweets 99;");
            z.swap(0, 1, 1);
            c.dueText("just 100", Texts.setup(z), "train 4 first 0;seat 0 a window +9 sweets 8;seat 1 b sweets 100;");
        });
        e.says("likes above 0 with a plus sign;", c -> {
            for (int like = -9; like <= 9; like++) {
                SeatSwap x = Texts.loaded("train 4 first 0;seat 0 a window +1 ahead -1;");
                x.set(0, 0, like);
                x.set(0, 1, -like);
                String due = like == 0 ? "" : like > 0 ? " window +" + like + " ahead -" + like : " window -" + -like
                    + " ahead +" + -like;
                c.dueText("like " + like, Texts.setup(x), "train 4 first 0;seat 0 a" + due + ";");
            }
        });
        e.says("\"row\" if ROW or PULLS is above 0):", c -> {
            for (int row = 0; row <= 9; row++) {
                for (int pulls = 0; pulls <= 3; pulls++) {
                    same(c, "train 10 first 0;seat 0 a" + (row + pulls > 0 ? " row " + row + " " + pulls : "") + ";");
                }
            }
        });
        e.says("tokens are separated by one space, but there is no space behind a plus or minus sign or before a "
            + "semicolon, and nothing between a semicolon and the next token;", c -> {
            SeatSwap x = Texts.loaded("\n train10first1 ;\nseat 3 a ticket family 1window + 1ahead - 1row 1 1sweets "
                + "1stop 1 ; seat12b ;\n");
            c.dueText("setup", Texts.setup(x), "train 10 first 1;"
                + "seat 3 a ticket family 1 window +1 ahead -1 row 1 1 sweets 1 stop 1;seat 12 b;");
        });
        e.says("INTs are in decimal without leading zeros.", c -> {
            SeatSwap x = Texts.loaded("train 02 first 00;seat 00 a family 01 window +01 ahead -09 row 00 03 sweets 05 "
                + "stop 07;");
            c.dueText("setup", Texts.setup(x), "train 2 first 0;"
                + "seat 0 a family 1 window +1 ahead -9 row 0 3 sweets 5 stop 7;");
            for (int number = 1; number <= 99; number++) {
                same(c, "train 10 first 0;seat 39 a sweets " + number + (number < 99 ? " stop " + number : "") + ";");
            }
            for (int seat = 0; seat < 40; seat++) {
                same(c, "train 10 first 0;seat " + seat + " a;");
            }
        });
        e.plain("Returns the number of bytes.");
        e.at("promise 40");
        e.plain("Returns a byte of that setup text.");
        e.says("position, from 0", c -> {
            SeatSwap x = Texts.loaded("train 10 first 0;seat 39 zz stop 1;");
            String due = "train 10 first 0;seat 39 zz stop 1;";
            for (int i = 0; i < due.length(); i++) {
                c.due("byte " + i, x.setupByte(i), due.charAt(i));
            }
        });
        e.says("Returns the byte; INVALID for a negative i; NOT_FOUND if the text is not so long.", c -> {
            SeatSwap x = new SeatSwap();
            c.due("last", x.setupByte(15), ';');
            for (int i : new int[] {16, 17, 256, 1000, 65536, MAX - 1, MAX}) {
                c.due("byte " + i, x.setupByte(i), SeatSwap.NOT_FOUND);
            }
            for (int i : new int[] {-1, -2, -3, -16, -256, MIN, MIN + 1}) {
                c.due("byte " + i, x.setupByte(i), SeatSwap.INVALID);
            }
            StringBuilder text = new StringBuilder("train10first10;");
            for (int t = 0; t < 20; t++) {
                text.append("seat").append(20 + t).append("abcde ticket family9window-9ahead+9row9 3sweets99;");
            }
            text.setLength(text.lastIndexOf(";", 999) + 1);
            SeatSwap longest = Texts.loaded(text.toString());
            int many = longest.value(3);
            for (int t = many; t < 20; t++) {
                Texts.come(longest, "abcde", 20 + t, 1, 9, 99, 98);
                longest.set(t, 0, -9);
                longest.set(t, 1, 9);
                longest.set(t, 2, 9);
                longest.set(t, 3, 3);
            }
            int length = longest.setupLength();
            c.due("longest", length, 18 + many * 67 + (20 - many) * 75);
            c.due("its last byte", longest.setupByte(length - 1), ';');
            c.due("behind it", longest.setupByte(length), SeatSwap.NOT_FOUND);
        });
    }
}
