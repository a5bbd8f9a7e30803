/** Promises 1 to 5: a new object, append, truncate, load, errorPosition. */
public final class TextsTest {
    private static final Check CHECK = new Check("TextsTest");

    public static void main(String[] args) {
        promise1NewObject();
        promise2Append();
        promise3Truncate();
        promise4Load();
        promise4LoadReplacesEverything();
        promise4LeavesNoTrace();
        promise4ErrorLeavesEverything();
        promise5ErrorPosition();
        promise5SemanticErrors();
        promise5Tokens();
        CHECK.end();
    }

    private static void promise1NewObject() {
        SeatSwap x = new SeatSwap();
        CHECK.dueText("1: setup", Texts.setup(x), "train 4 first 1;");
        CHECK.due("1: tape is empty", x.truncate(1), SeatSwap.INVALID);
        CHECK.due("1: tape is empty", x.truncate(0), 0);
        CHECK.due("1: log is empty", x.value(15), 0);
        CHECK.due("1: slot 0 is empty", x.restore(0), SeatSwap.NOT_FOUND);
        CHECK.due("1: slot 1 is empty", x.restore(1), SeatSwap.NOT_FOUND);
        CHECK.due("1: nothing to undo", x.undo(), SeatSwap.INVALID);
        for (int what = 7; what <= 12; what++) {
            CHECK.due("1: value " + what, x.value(what), 0);
        }
        CHECK.due("1: INVALID", SeatSwap.INVALID, -1);
        CHECK.due("1: NOT_FOUND", SeatSwap.NOT_FOUND, -2);
        CHECK.due("1: FULL", SeatSwap.FULL, -3);
        CHECK.due("1: BARRED", SeatSwap.BARRED, -4);
        SeatSwap other = new SeatSwap();
        Texts.come(other, "anna", 4, 0, 0, 0, 1);
        CHECK.due("1: objects share nothing", x.value(3), 0);
    }

    private static void promise2Append() {
        SeatSwap x = new SeatSwap();
        // The fifteen spaces and the name come from all the five words, the most significant byte first.
        CHECK.due("2: append", x.append(0x74726169, 0x6e20330a, 0x66697273, 0x74203220, 0x20203b20), 20);
        CHECK.due("2: load", x.load(), 0);
        CHECK.due("2: rows", x.value(0), 3);
        CHECK.due("2: first", x.value(1), 2);
        for (int i = 1; i <= 50; i++) {
            CHECK.due("2: append " + i, x.append(-1, i, 0, 0, 0), 20 * i);
        }
        CHECK.due("2: over 1000", x.append(0, 0, 0, 0, 0), SeatSwap.INVALID);
        CHECK.due("2: nothing was appended", x.truncate(0), 1000);
        CHECK.due("2: 19 bytes of room", x.truncate(19), 981);
        CHECK.due("2: not in part", x.append(0, 0, 0, 0, 0), SeatSwap.INVALID);
        CHECK.due("2: 20 bytes of room", x.truncate(1), 980);
        CHECK.due("2: just 1000", x.append(0, 0, 0, 0, 0), 1000);
        // A byte above 127 is no token, wherever it stands.
        CHECK.due("2: load", x.load(), SeatSwap.INVALID);
        CHECK.due("2: error", x.errorPosition(), 0);
    }

    private static void promise3Truncate() {
        SeatSwap x = new SeatSwap();
        CHECK.due("3: nothing", x.truncate(0), 0);
        CHECK.due("3: below 0", x.truncate(-1), SeatSwap.INVALID);
        CHECK.due("3: above the length", x.truncate(1), SeatSwap.INVALID);
        x.append(0, 0, 0, 0, 0);
        CHECK.due("3: above the length", x.truncate(21), SeatSwap.INVALID);
        CHECK.due("3: far below", x.truncate(Integer.MIN_VALUE), SeatSwap.INVALID);
        CHECK.due("3: far above", x.truncate(Integer.MAX_VALUE), SeatSwap.INVALID);
        CHECK.due("3: some", x.truncate(7), 13);
        CHECK.due("3: below 0 then", x.truncate(-1), SeatSwap.INVALID);
        CHECK.due("3: all", x.truncate(13), 0);
        Texts.put(x, "train 2 first 0;seat 0 ab;");
        x.truncate(10);
        CHECK.due("3: the last bytes go", x.load(), 0);
        CHECK.due("3: and the first ones stay", x.value(0), 2);
    }

    private static void promise4Load() {
        String all = "train 10 first 2;seat 7 anna ticket family 9 window +9 ahead -9 row 9 3 sweets 99 stop 1;"
            + "seat 39 bo family 1;seat 8 c window -1;seat 0 d ticket;";
        SeatSwap x = new SeatSwap();
        CHECK.due("4: load", Texts.load(x, all), 4);
        CHECK.dueText("4: setup", Texts.setup(x), all);
        int[] anna = {7, 1, 9, 18, 0, 9, 3, 99, 1};
        int[] bo = {39, 0, 1, 9, 9, 0, 0, 0, 99};
        for (int what = 0; what <= 8; what++) {
            CHECK.due("4: anna " + what, x.of(0, what), anna[what]);
            CHECK.due("4: bo " + what, x.of(1, what), bo[what]);
        }
        CHECK.dueText("4: name", Texts.name(x, 0), "anna");
        CHECK.due("4: the tape is empty", x.truncate(1), SeatSwap.INVALID);
        String thin = "train10first0;seat03abcde\n ticket family 01window+ 05ahead\n-\n1row 01 2sweets 07stop 09;  \n";
        CHECK.due("4: white space where it need not be, and not", Texts.load(x, thin), 1);
        CHECK.dueText("4: as setup", Texts.setup(x),
            "train 10 first 0;seat 3 abcde ticket family 1 window +5 ahead -1 row 1 2 sweets 7 stop 9;");
        CHECK.due("4: 0 as without", Texts.load(x, " \n train 2 first 2; seat 7 a ticket window -0 ahead +0 row 0 0"
            + " sweets 00 stop 99;"), 1);
        CHECK.dueText("4: 0 as without", Texts.setup(x), "train 2 first 2;seat 7 a ticket;");
        StringBuilder twenty = new StringBuilder("train 5 first 5;");
        for (int seat = 0; seat < 20; seat++) {
            twenty.append("seat ").append(19 - seat).append(" a ticket;");
        }
        CHECK.due("4: twenty", Texts.load(x, twenty.toString()), 20);
        CHECK.due("4: of them the last one", x.of(19, 0), 0);
        CHECK.due("4: no seat is free", x.value(4), 0);
        CHECK.due("4: none", Texts.load(x, "train 3 first 3;"), 0);
        CHECK.due("4: all go", x.value(3), 0);
    }

    private static void promise4LoadReplacesEverything() {
        SeatSwap x = Texts.loaded("train 4 first 0;seat 4 a family 1 sweets 9;"
            + "seat 5 b family 1 sweets 1;seat 12 c family 2 stop 1;");
        x.swap(0, 1, 0);
        x.move(0, 6);
        x.set(0, 0, 1);
        x.first(1);
        x.station(2);
        x.keep(0);
        x.keep(1);
        Texts.load(x, "oops");
        CHECK.due("4: load", Texts.load(x, "train 2 first 1;seat 4 z;"), 1);
        int[] due = {2, 1, 0, 1, 7, 10000, 0, 0, 0, 0, 0, 0, 0, 1, 0, 0, 0};
        for (int what = 0; what <= 16; what++) {
            CHECK.due("4: value " + what + " after a load", x.value(what), due[what]);
        }
        CHECK.due("4: slot 0", x.restore(0), SeatSwap.NOT_FOUND);
        CHECK.due("4: slot 1", x.restore(1), SeatSwap.NOT_FOUND);
        CHECK.due("4: undo", x.undo(), SeatSwap.INVALID);
        CHECK.due("4: log", x.log(0, 0), SeatSwap.NOT_FOUND);
        CHECK.due("4: error position", x.errorPosition(), SeatSwap.NOT_FOUND);
        CHECK.due("4: family 1", x.family(1, 0), 0);
        CHECK.due("4: table", x.table(0, 0), 1);
    }

    /** What settling would bring, or another load, must not be seen in what is loaded. */
    private static void promise4LeavesNoTrace() {
        SeatSwap x = Texts.loaded("train 4 first 1;seat 5 a window +9 sweets 9;seat 4 b;seat 12 c stop 1;");
        CHECK.due("9: swap", x.swap(0, 1, 3), 109);
        CHECK.due("7: set", x.set(0, 0, 0), 18);
        CHECK.due("11: ring", x.ring(0, 1, 2), 0);
        CHECK.due("10: move", x.move(0, 9), 0);
        CHECK.due("13: station", x.station(1), 1);
        for (int what = 8; what <= 10; what++) {
            CHECK.due("17: value " + what, x.value(what), 1);
        }
        x.ifSettled(0);
        Texts.load(x, "train 9 first 7;seat 30 q family 5;seat 31 r family 5;;");
        CHECK.due("4: load", Texts.load(x, "train 3 first 2;seat 8 z;"), 1);
        int[] due = {3, 2, 0, 1, 11, 10000, 0, 0, 0, 0, 0, 0, 0, 2, 0, 0, 0};
        for (int what = 0; what <= 16; what++) {
            CHECK.due("4: value " + what, x.value(what), due[what]);
        }
        CHECK.due("22: family", x.family(5, 0), 0);
        CHECK.due("10: move", x.move(0, 9), 0);
        CHECK.due("34: the first entry", x.log(0, 2), 8);
        CHECK.due("17: entries", x.value(15), 1);
    }

    private static void promise4ErrorLeavesEverything() {
        SeatSwap x = Texts.loaded("train 4 first 0;seat 4 a family 1;seat 5 b family 1 stop 1;");
        x.move(0, 6);
        x.keep(1);
        x.station(1);
        String before = Texts.state(x);
        CHECK.due("4: error behind much that is right",
            Texts.load(x, "train 9 first 1;seat 30 q family 5;seat 31 r ticket;seat 30 s;"), SeatSwap.INVALID);
        CHECK.dueText("4: all stays", Texts.state(x), before);
        CHECK.due("4: tape is empty", x.truncate(1), SeatSwap.INVALID);
        CHECK.due("4: operations", x.value(16), 2);
        CHECK.due("4: undo", x.undo(), 1);
        CHECK.due("4: travellers", x.value(3), 2);
        CHECK.due("4: slot", x.restore(1), 2);
        CHECK.due("4: family", x.family(1, 0), 2);
    }

    private static void error(String text, int position) {
        SeatSwap x = new SeatSwap();
        int length = text.length();
        CHECK.due("5: tape", Texts.put(x, text), length);
        CHECK.due("5: load of " + text, x.load(), SeatSwap.INVALID);
        CHECK.due("5: error of " + text, x.errorPosition(), position);
        CHECK.dueText("5: all stays", Texts.setup(x), "train 4 first 1;");
    }

    private static void promise5ErrorPosition() {
        SeatSwap x = new SeatSwap();
        CHECK.due("5: no load", x.errorPosition(), SeatSwap.NOT_FOUND);
        Texts.load(x, "train x");
        CHECK.due("5: an error", x.errorPosition(), 6);
        Texts.come(x, "anna", 4, 0, 0, 0, 1);
        x.undo();
        CHECK.due("5: undo leaves it", x.errorPosition(), 6);
        Texts.load(x, "train 4 first 0;");
        CHECK.due("5: success", x.errorPosition(), SeatSwap.NOT_FOUND);
        x.load();
        CHECK.due("5: empty", x.errorPosition(), 0);
        error("   \n", 4);
        error("first", 0);
        error(" trains 4", 1);
        error("xrain 4 first 1;", 0);
        error("traix 4 first 1;", 0);
        error("train 4 firsts 1;", 8);
        error("train ", 6);
        error("train first", 6);
        error("train 4 4", 8);
        error("train 4 first", 13);
        error("train 4 first;", 13);
        error("train 4 first 1  ", 17);
        error("train 4 first 1 seat", 16);
        error("train 4 first 1;;", 16);
        error("train 4 first 1;train", 16);
        error("train 4 first 1; seat", 21);
        error("train 4 first 1;seat 4", 22);
        error("train 4 first 1;seat 4;", 22);
        error("train 4 first 1;seat 4 5", 23);
        error("train 4 first 1;seat 4 a", 24);
        error("train 4 first 1;seat 4 a b;", 25);
        error("train 4 first 1;seat 4 a family;", 31);
        error("train 4 first 1;seat 4 a window 5;", 32);
        error("train 4 first 1;seat 4 a window +;", 33);
        error("train 4 first 1;seat 4 a ahead ;", 31);
        error("train 4 first 1;seat 4 a ahead - +;", 33);
        error("train 4 first 1;seat 4 a row 1;", 30);
        error("train 4 first 1;seat 4 a sweets;", 31);
        error("train 4 first 1;seat 4 a stop", 29);
        error("train 4 first 1;seat 4 a ticket ticket;", 32);
        error("train 4 first 1;seat 4 a family 1 ticket;", 34);
        error("train 4 first 1;seat 4 a window +1 window +1;", 35);
        error("train 4 first 1;seat 4 a ahead +1 window +1;", 34);
        error("train 4 first 1;seat 4 a stop 4 sweets 1;", 32);
        error("train 4 first 1;seat 4 a sweets 4 row 1 1;", 34);
        error("train 4 first 1;seat 4 a ticket", 31);
    }

    private static void promise5SemanticErrors() {
        error("train 1 first 1;", 6);
        error("train 11 first 1;", 6);
        error("train 00 first 1;", 6);
        error("train 2 first 3;", 14);
        error("train 10 first 11;", 15);
        error("train 2 first 0;seat 8 a;", 21);
        error("train 10 first 0;seat 40 a;", 22);
        error("train 2 first 0;seat 7 a;seat 07 b;", 30);
        error("train 2 first 1;seat 3 a;", 24);
        error("train 2 first 1;seat 3 a family 1 stop 4 ;", 41);
        error("train 2 first 2;seat 4 a;", 24);
        error("train 2 first 1;seat 3 a;b", 24);
        error("train 2 first 0;seat 0 a family 0;", 32);
        error("train 2 first 0;seat 0 a family 10;", 32);
        error("train 2 first 0;seat 0 a window +10;", 33);
        error("train 2 first 0;seat 0 a ahead - 10;", 33);
        error("train 2 first 0;seat 0 a row 2 0;", 29);
        error("train 2 first 0;seat 0 a row 1 4;", 31);
        error("train 2 first 0;seat 0 a sweets 100;", 32);
        error("train 2 first 0;seat 0 a stop 0;", 30);
        error("train 2 first 0;seat 0 a stop 100;", 30);
        StringBuilder twenty = new StringBuilder("train 6 first 0;");
        for (int seat = 10; seat < 30 - 6; seat++) {
            twenty.append("seat ").append(seat).append(" a;");
        }
        for (int seat = 0; seat < 6; seat++) {
            twenty.append("seat ").append(seat).append(" a;");
        }
        int length = twenty.length();
        CHECK.due("5: twenty", Texts.load(new SeatSwap(), twenty + " \n"), 20);
        error(twenty + " seat 9 a;", length + 1);
        error(twenty + "seat", length);
        error(twenty + "x", length);
    }

    private static void promise5Tokens() {
        error("Train 4 first 1;", 0);
        error("train 4 first 1;\t", 16);
        error("train\r4 first 1;", 5);
        error("train 4 first 1;seat 4 abcdef;", 23);
        error("train 4 first 1;seat 4 seats ticket x;", 36);
        error("train 4 first 1;seat 4 annaB;", 27);
        error("train 004 first 1;", 6);
        error("train 4 first 001;", 14);
        error("train 4first 1 first;", 15);
        error("trainfirst 4;", 0);
        error("train 4 first +1;", 14);
        error("train 4 first 1.", 15);
        error("train 4 first 1;\u0000", 16);
        error("train 4 first 1;\u00e9", 16);
        error("train 4 first 1;seat 4 a1;", 24);
        for (String keyword : new String[] {"train", "first", "seat", "ticket", "family", "window", "ahead", "row",
            "sweets", "stop"}) {
            error("train 4 first 1;seat 4 " + keyword + ";", 23);
        }
        SeatSwap x = new SeatSwap();
        CHECK.due("5: words near keywords are names", Texts.load(x,
            "train 4 first 0;seat 1 seats;seat 2 trai;seat 3 ro;seat 4 rows;seat 5 sto;seat 6 z;seat 7 swee;"), 7);
    }
}
