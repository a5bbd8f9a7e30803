/** The edges that section 7 of the document's terms and the promises 6 to 16 name: calls and operations. */
public final class EdgesOfCallsTest {
    private static final int MIN = Integer.MIN_VALUE;
    private static final int MAX = Integer.MAX_VALUE;

    public static void main(String[] args) {
        Edges edges = new Edges();
        list(edges);
        edges.run("EdgesOfCallsTest");
    }

    static void list(Edges e) {
        calls(e);
        operations(e);
        constants(e);
        come(e);
        setAndFirst(e);
        exchanges(e);
        station(e);
        slots(e);
        undo(e);
    }

    /** Six travellers, one in the first class, with likes, families and stops. */
    static SeatSwap six() {
        return Texts.loaded("train 4 first 1;seat 0 a ticket sweets 9;seat 4 b window +2;seat 5 d family 1;"
            + "seat 6 e family 1 stop 2;seat 9 f window +1 sweets 5;seat 15 g window -1 stop 1;");
    }

    private static void calls(Edges e) {
        e.at("term 7");
        e.says("Arguments that are travellers, SEATs or TABLEs are valid if there are such ones; an index from 0.",
            c -> {
            SeatSwap x = six();
            there(c, x, 6, 16, 2);
            x.station(1);
            there(c, x, 5, 16, 2);
            x.undo();
            there(c, x, 6, 16, 2);
            there(c, new SeatSwap(), 0, 16, 2);
            there(c, Texts.loaded("train 10 first 0;seat 39 a;"), 1, 40, 5);
            there(c, Texts.loaded("train 3 first 0;seat 11 a;"), 1, 12, 2);
            there(c, EdgesOfExchangesTest.all(";"), 20, 40, 5);
            SeatSwap y = six();
            y.keep(0);
            y.station(50);
            there(c, y, 4, 16, 2);
            y.restore(0);
            there(c, y, 6, 16, 2);
        });
        e.says("A call with an invalid argument returns INVALID and changes nothing; this is checked before any other "
            + "special result.", EdgesOfCallsTest::invalidArguments);
        e.says("Further special results are checked in the order in which the call lists them.", c -> {
            SeatSwap x = EdgesOfExchangesTest.all(";");
            Texts.put(x, "no name");
            c.due("no name before full", x.come(20, 0, 0, 0, 1), SeatSwap.INVALID);
            x.truncate(7);
            Texts.put(x, "name");
            c.due("full before barred", x.come(0, 0, 0, 0, 1), SeatSwap.FULL);
            c.due("invalid before full", x.come(40, 0, 0, 0, 1), SeatSwap.INVALID);
            c.due("invalid before not found", x.letter(20, 5), SeatSwap.INVALID);
            c.due("invalid before not found", x.letter(0, -1), SeatSwap.INVALID);
            c.due("invalid before not found", x.log(0, 3), SeatSwap.INVALID);
            c.due("not found", x.log(0, 2), SeatSwap.NOT_FOUND);
            c.due("invalid before not found", x.restore(2), SeatSwap.INVALID);
            c.due("not found", x.restore(1), SeatSwap.NOT_FOUND);
            SeatSwap y = Texts.loaded("train 2 first 1;seat 0 a ticket;seat 4 b;");
            c.due("as it is", y.set(0, 4, 1), SeatSwap.NOT_FOUND);
            c.due("barred", y.set(0, 4, 0), SeatSwap.BARRED);
            c.due("as it is", y.first(1), SeatSwap.NOT_FOUND);
            c.due("barred", y.first(2), SeatSwap.BARRED);
            Texts.put(y, "no name");
            c.due("no name before barred", y.come(0, 0, 0, 0, 1), SeatSwap.INVALID);
            c.due("twice the same before a refusal", y.swap(1, 1, 9), SeatSwap.INVALID);
            c.due("invalid sweets before a refusal", y.swap(1, 0, 10), SeatSwap.INVALID);
            for (int i = 0; i < 19; i++) {
                y.station(50);
            }
            c.due("full", y.station(50), SeatSwap.FULL);
            c.due("invalid before full", y.station(51), SeatSwap.INVALID);
        });
        e.says("An exchange that is refused returns -10 less its reason, and changes nothing.", c -> {
            SeatSwap x = six();
            x.set(2, 3, 1);
            String before = Texts.state(x);
            c.due("1", x.swap(1, 0, 0), -11);
            c.due("2", x.swap(1, 2, 1), -12);
            c.due("3", x.swap(1, 3, 0), -13);
            c.due("4", x.swap(4, 1, 1), -14);
            c.due("5", x.move(0, 0), -15);
            c.due("5", x.move(0, 4), -15);
            c.due("1", x.move(1, 1), -11);
            c.due("6", x.move(1, 10), -16);
            c.due("1", x.ring(0, 1, 2), -11);
            c.due("6", x.ring(1, 2, 4), -16);
            c.dueText("nothing changed", Texts.state(x), before);
            c.due("operations", x.value(16), 1);
            c.due("the one before is undone", x.undo(), 0);
        });
    }

    /** Asks with the last traveller, seat and table that are there, and with the ones behind them. */
    private static void there(Check c, SeatSwap x, int travellers, int seats, int tables) {
        for (int t : new int[] {MIN, -1, 0, travellers - 1, travellers, 20, MAX}) {
            boolean right = t >= 0 && t < travellers;
            c.due("traveller " + t, x.of(t, 0) == SeatSwap.INVALID ? 0 : 1, right ? 1 : 0);
            c.due("letter of " + t, x.letter(t, 0) == SeatSwap.INVALID ? 0 : 1, right ? 1 : 0);
            c.due("best seat of " + t, x.bestSeat(t) == SeatSwap.INVALID ? 0 : 1, right ? 1 : 0);
        }
        for (int seat : new int[] {MIN, -1, 0, seats - 1, seats, 40, MAX}) {
            boolean right = seat >= 0 && seat < seats;
            c.due("seat " + seat, x.at(seat) == SeatSwap.INVALID ? 0 : 1, right ? 1 : 0);
            if (travellers > 0) {
                c.due("seat " + seat, x.whyMove(0, seat) == SeatSwap.INVALID ? 0 : 1, right ? 1 : 0);
            }
        }
        for (int table : new int[] {MIN, -1, 0, tables - 1, tables, 5, MAX}) {
            boolean right = table >= 0 && table < tables;
            c.due("table " + table, x.table(table, 0) == SeatSwap.INVALID ? 0 : 1, right ? 1 : 0);
        }
        for (int i : new int[] {0, 1, 1000, MAX}) {
            c.that("index " + i, x.planByte(i) != SeatSwap.INVALID && x.setupByte(i) != SeatSwap.INVALID
                && x.ranked(i) != SeatSwap.INVALID && x.log(i, 0) != SeatSwap.INVALID);
        }
        for (int i : new int[] {-1, -2, MIN}) {
            c.that("index " + i, x.planByte(i) == SeatSwap.INVALID && x.setupByte(i) == SeatSwap.INVALID
                && x.ranked(i) == SeatSwap.INVALID && x.log(i, 0) == SeatSwap.INVALID);
        }
    }

    private static void invalidArguments(Check c) {
        SeatSwap empty = new SeatSwap();
        SeatSwap some = six();
        some.set(0, 0, 1);
        SeatSwap full = EdgesOfExchangesTest.all("family 1;");
        full.station(50);
        SeatSwap[] trains = {empty, some, full};
        int[] travellers = {0, 6, 20};
        int[] seats = {16, 16, 40};
        int[] rows = {4, 4, 10};
        for (int i = 0; i < 3; i++) {
            SeatSwap x = trains[i];
            x.keep(0);
            Texts.put(x, "a");
            String before = Texts.state(x);
            int operations = x.value(16);
            for (int t : Edges.outside(0, travellers[i] - 1)) {
                c.due("set " + t, x.set(t, 0, 2), SeatSwap.INVALID);
                c.due("swap " + t, x.swap(t, 0, 0), SeatSwap.INVALID);
                c.due("swap with " + t, x.swap(0, t, 0), SeatSwap.INVALID);
                c.due("move " + t, x.move(t, 10), SeatSwap.INVALID);
                c.due("ring " + t, x.ring(t, 0, 1), SeatSwap.INVALID);
                c.due("ring 0 " + t, x.ring(0, t, 1), SeatSwap.INVALID);
                c.due("ring 0 1 " + t, x.ring(0, 1, t), SeatSwap.INVALID);
            }
            for (int seat : Edges.outside(0, seats[i] - 1)) {
                c.due("come " + seat, x.come(seat, 1, 0, 0, 1), SeatSwap.INVALID);
                c.due("move " + seat, x.move(0, seat), SeatSwap.INVALID);
            }
            for (int first : Edges.outside(0, rows[i])) {
                c.due("first " + first, x.first(first), SeatSwap.INVALID);
            }
            for (int many : Edges.outside(1, 50)) {
                c.due("station " + many, x.station(many), SeatSwap.INVALID);
            }
            for (int slot : Edges.outside(0, 1)) {
                c.due("keep " + slot, x.keep(slot), SeatSwap.INVALID);
                c.due("restore " + slot, x.restore(slot), SeatSwap.INVALID);
            }
            c.dueText("nothing changed", Texts.state(x), before);
            c.due("operations", x.value(16), operations);
            c.due("tape", x.truncate(0), 1);
            c.due("slot", x.restore(0), travellers[i]);
        }
    }

    private static void operations(Edges e) {
        e.says("Operations are the calls of come(), swap(), move(), ring(), settle(), set(), first(), station() and "
            + "restore() that return 0 or more.", c -> {
            SeatSwap x = six();
            Texts.put(x, "a");
            // Each of these returns 0 where it can.
            c.due("set", x.set(1, 2, 1), 0);
            c.due("first", x.first(0), 1);
            c.due("first", x.first(1), 0);
            c.due("station", x.station(1), 1);
            c.due("move", x.move(1, 7), 0);
            c.due("operations", x.value(16), 5);
            c.due("ring", x.ring(2, 3, 4), -16);
            c.due("come", x.come(8, 0, 0, 0, 9), 5);
            c.due("swap", x.swap(1, 2, 9), -12);
            c.due("settle", x.settle(), 1);
            c.due("operations", x.value(16), 7);
            SeatSwap y = Texts.loaded("train 4 first 0;");
            Texts.put(y, "a");
            c.due("restore of nothing", y.restore(0), SeatSwap.NOT_FOUND);
            c.due("keep is none", y.keep(0), 0);
            c.due("operations", y.value(16), 0);
            c.due("come returns 0", y.come(5, 0, 0, 0, 99), 0);
            c.due("restore returns 0", y.restore(0), 0);
            c.due("station returns 0", y.station(1), 0);
            c.due("first returns 0", y.first(1), 0);
            c.due("operations", y.value(16), 4);
            SeatSwap z = Texts.loaded("train 4 first 0;seat 1 a window -9;seat 2 b;seat 5 d;");
            c.due("set returns 0", z.set(0, 0, 0), 0);
            c.due("ring returns 0", z.ring(0, 1, 2), 0);
            c.due("move returns 0", z.move(0, 0), 0);
            c.due("swap returns 100", z.swap(0, 1, 0), 100);
            c.due("operations", z.value(16), 4);
            c.due("settle finds nothing", z.settle(), SeatSwap.NOT_FOUND);
            c.due("as it is", z.set(0, 0, 0), SeatSwap.NOT_FOUND);
            c.due("as it is", z.first(0), SeatSwap.NOT_FOUND);
            c.due("refused", z.move(0, 5), -15);
            c.due("invalid", z.station(0), SeatSwap.INVALID);
            c.due("the tape is none", z.append(0, 0, 0, 0, 0), 20);
            c.due("operations", z.value(16), 4);
            z.set(0, 0, 9);
            c.due("settle", z.settle(), 1);
            c.due("operations", z.value(16), 6);
        });
        e.says("The latest 8 of them can be undone (of more than 8 the oldest is forgotten for good; one that was "
            + "undone does not count any more);", c -> {
            for (int done = 0; done <= 20; done++) {
                SeatSwap x = Texts.loaded("train 10 first 0;seat 0 a;");
                for (int i = 1; i <= done; i++) {
                    c.due("move", x.move(0, i), 0);
                    c.due("can be undone", x.value(16), i < 8 ? i : 8);
                }
                int many = done < 8 ? done : 8;
                for (int left = many - 1; left >= 0; left--) {
                    c.due("undo", x.undo(), left);
                    c.due("seat", x.of(0, 0), done - many + left);
                    c.due("can be undone", x.value(16), left);
                }
                c.due("no more", x.undo(), SeatSwap.INVALID);
                c.due("seat", x.of(0, 0), done - many);
            }
            SeatSwap x = Texts.loaded("train 10 first 0;seat 0 a;");
            for (int i = 1; i <= 60; i++) {
                x.move(0, i % 40);
                x.move(0, (i + 20) % 40);
                c.due("one of two undone", x.undo(), i < 8 ? i : 7);
                c.due("seat", x.of(0, 0), i % 40);
            }
            for (int left = 6; left >= 0; left--) {
                c.due("undo", x.undo(), left);
                c.due("seat", x.of(0, 0), (53 + left) % 40);
            }
            c.due("no more", x.undo(), SeatSwap.INVALID);
        });
        e.says("undo() leaves the slots, the tape and the error position as they are.", c -> {
            SeatSwap x = Texts.loaded("train 4 first 0;seat 0 a;");
            Texts.load(x, "train 4 ");
            x.move(0, 1);
            x.keep(0);
            x.move(0, 2);
            Texts.put(x, "tape");
            x.keep(1);
            c.due("undo", x.undo(), 1);
            c.due("undo", x.undo(), 0);
            c.due("tape", x.truncate(0), 4);
            c.due("error", x.errorPosition(), 8);
            c.due("slot 0", x.restore(0), 1);
            c.due("seat", x.of(0, 0), 1);
            c.due("slot 1", x.restore(1), 1);
            c.due("seat", x.of(0, 0), 2);
            c.due("undo of a restore", x.undo(), 1);
            c.due("undo of a restore", x.undo(), 0);
            c.due("slot 1", x.restore(1), 1);
            Texts.put(x, "");
            SeatSwap y = Texts.loaded("train 4 first 0;");
            Texts.come(y, "ab", 0, 0, 0, 0, 1);
            y.undo();
            c.due("the name is not put back", y.truncate(0), 0);
        });
        e.says("What operations change is travellers, FIRST, TIME, the counts and the log (restore() has no entry of "
            + "its own); ROWS stay.", c -> {
            SeatSwap x = EdgesOfTextsTest.busy();
            String kept = Texts.state(x);
            int[] counts = new int[6];
            x.keep(1);
            for (int what = 7; what <= 12; what++) {
                counts[what - 7] = x.value(what);
                c.that("count " + what + " is above 0", counts[what - 7] > 0);
            }
            SeatSwap y = EdgesOfTextsTest.busy();
            y.keep(1);
            y.set(0, 0, 9);
            y.station(50);
            Texts.come(y, "q", 15, 1, 0, 0, 99);
            y.first(0);
            y.move(2, 14);
            c.due("entries", y.value(15), 13);
            c.due("restore", y.restore(1), 2);
            c.dueText("all is as it was", Texts.state(y), kept);
            c.due("rows", y.value(0), 4);
            c.due("undo", y.undo(), 7);
            c.due("entries", y.value(15), 13);
            c.due("time", y.value(2), 53);
            for (int left = 6; left >= 3; left--) {
                y.undo();
            }
            y.undo();
            c.dueText("undone to where it was kept", Texts.state(y), kept);
            for (int what = 7; what <= 12; what++) {
                c.due("count " + what, y.value(what), counts[what - 7]);
            }
            SeatSwap full = Texts.loaded("train 4 first 0;seat 0 a;");
            for (int i = 1; i <= 40; i++) {
                full.move(0, i % 16);
            }
            full.set(0, 2, 3);
            c.dueText("the entry that took the place of the oldest", EdgesOfExchangesTest.entry(full, 39), "6/2/0");
            full.undo();
            c.dueText("the latest one before", EdgesOfExchangesTest.entry(full, 39), "2/0/7");
            c.dueText("the oldest one is back", EdgesOfExchangesTest.entry(full, 0), "2/0/0");
        });
    }

    private static void constants(Edges e) {
        e.says("The constants: : Result of a call with an invalid argument.", c -> c.due("INVALID", SeatSwap.INVALID,
            -1));
        e.says(": Result of a call that finds nothing, or would change nothing.", c -> {
            c.due("NOT_FOUND", SeatSwap.NOT_FOUND, -2);
            SeatSwap x = Texts.loaded("train 4 first 0;seat 0 a;");
            c.due("set as it is", x.set(0, 0, 0), -2);
            c.due("first as it is", x.first(0), -2);
            c.due("settle", x.settle(), -2);
            c.due("restore", x.restore(0), -2);
            c.due("partner", x.partner(0), -2);
            c.due("at", x.at(1), -2);
        });
        e.says(": There are 20 travellers, or TIME would be above 999.", c -> {
            c.due("FULL", SeatSwap.FULL, -3);
            SeatSwap x = EdgesOfExchangesTest.all("stop 1;");
            Texts.put(x, "a");
            c.due("21st", x.come(39, 0, 0, 0, 1), -3);
            for (int i = 0; i < 20; i++) {
                c.due("station", x.station(50), i == 0 ? 20 : i < 19 ? 0 : -3);
            }
            c.due("travellers", x.value(3), 0);
            c.due("not full any more", x.come(39, 0, 0, 0, 1), 0);
        });
        e.says(": A SEAT is not free, or a TICKET does not allow it.", c -> {
            c.due("BARRED", SeatSwap.BARRED, -4);
            SeatSwap x = Texts.loaded("train 4 first 1;seat 0 a ticket;seat 4 b;");
            Texts.put(x, "d");
            c.due("not free", x.come(4, 1, 0, 0, 1), -4);
            c.due("not allowed", x.come(1, 0, 0, 0, 1), -4);
            c.due("not allowed", x.set(0, 4, 0), -4);
            c.due("not allowed", x.first(2), -4);
        });
        e.plain("Ahead of the calls , , , the interface says: ---- texts.",
            "Ahead of the calls , , the interface says: ---- travellers.",
            "Ahead of the calls , , , the interface says: ---- exchanges.",
            "Ahead of the calls the interface says: ---- stations.",
            "Ahead of the calls , , the interface says: ---- slots and undo.",
            "Ahead of the calls , , , , , , the interface says: ---- what there is.",
            "Ahead of the calls , , , , , , , , , the interface says: ---- reasons and what would be.",
            "Ahead of the calls , , , , , , the interface says: ---- log, rates, texts.");
    }

    private static void come(Edges e) {
        e.at("promise 6");
        e.says("Lets a traveller come, behind the others, whose name is the whole tape; the tape is empty afterwards.",
            c -> {
            SeatSwap x = new SeatSwap();
            c.due("empty tape", x.come(4, 0, 0, 0, 1), SeatSwap.INVALID);
            c.due("a", Texts.come(x, "a", 4, 0, 0, 0, 1), 0);
            c.due("tape", x.truncate(0), 0);
            c.due("empty again", x.come(5, 0, 0, 0, 1), SeatSwap.INVALID);
            c.due("zzzzz", Texts.come(x, "zzzzz", 5, 0, 0, 0, 1), 1);
            Texts.put(x, "bc");
            c.due("bcde", Texts.come(x, "de", 6, 0, 0, 0, 1), 2);
            c.dueText("name", Texts.name(x, 2), "bcde");
            c.due("name and space", Texts.come(x, "ab ", 7, 0, 0, 0, 1), SeatSwap.INVALID);
            c.due("without the space", x.truncate(1), 2);
            c.due("ab", x.come(7, 0, 0, 0, 1), 3);
            c.dueText("name", Texts.name(x, 3), "ab");
        });
        e.says("LIKES are 0.", c -> {
            SeatSwap x = Texts.loaded("train 4 first 0;seat 5 a window +9 ahead -9 row 3 3 stop 1;");
            x.station(1);
            c.due("come", Texts.come(x, "b", 4, 0, 0, 0, 1), 0);
            int[] due = {4, 0, 0, 9, 9, 0, 0, 0, 1, 100};
            for (int what = 0; what < due.length; what++) {
                c.due("number " + what, x.of(0, what), due[what]);
            }
        });
        e.says("a SEAT", c -> {
            for (int seat = 0; seat < 16; seat++) {
                SeatSwap x = new SeatSwap();
                c.due("seat " + seat, Texts.come(x, "a", seat, 1, 0, 0, 1), 0);
                c.due("at", x.at(seat), 0);
            }
        });
        e.says(": TICKET, 0 or 1", c -> arguments(c, 1, 0, 1));
        e.says(": FAMILY, 0 to 9", c -> arguments(c, 2, 0, 9));
        e.says(": SWEETS, 0 to 99", c -> arguments(c, 3, 0, 99));
        e.says(": STOP, 1 to 99", c -> arguments(c, 4, 1, 99));
        e.says("Returns the number; INVALID for an invalid argument, or if the tape is no NAME (the tape stays);",
            c -> {
            SeatSwap x = new SeatSwap();
            Texts.put(x, "abcdef");
            c.due("six letters", x.come(4, 0, 0, 0, 1), SeatSwap.INVALID);
            c.due("the tape stays", x.truncate(1), 5);
            c.due("invalid argument", x.come(4, 2, 0, 0, 1), SeatSwap.INVALID);
            c.due("the tape stays", x.truncate(0), 5);
            c.due("five letters", x.come(4, 0, 0, 0, 1), 0);
            Texts.put(x, "seat");
            c.due("a keyword", x.come(5, 0, 0, 0, 1), SeatSwap.INVALID);
            c.due("the tape stays", x.truncate(1), 3);
            c.due("three letters of it", x.come(5, 0, 0, 0, 1), 1);
            c.dueText("name", Texts.name(x, 1), "sea");
            Texts.put(x, " ".repeat(1000));
            c.due("a full tape", x.come(6, 0, 0, 0, 1), SeatSwap.INVALID);
            c.due("the tape stays", x.truncate(0), 1000);
        });
        e.says("FULL (the tape stays);", c -> {
            SeatSwap x = EdgesOfExchangesTest.all("stop 1;");
            Texts.put(x, "abc");
            c.due("full", x.come(39, 0, 0, 0, 1), SeatSwap.FULL);
            c.due("full, also where a seat is not free", x.come(0, 0, 0, 0, 1), SeatSwap.FULL);
            c.due("the tape stays", x.truncate(0), 3);
            c.due("nothing changed", x.value(3) * 100 + x.value(16) * 10 + x.value(15), 2000);
            x.station(1);
            c.due("not full", x.come(39, 0, 0, 0, 1), 0);
            c.dueText("name", Texts.name(x, 0), "abc");
        });
        e.says("BARRED (the tape stays).", c -> {
            SeatSwap x = Texts.loaded("train 4 first 2;seat 8 a;");
            Texts.put(x, "abc");
            c.due("first class", x.come(7, 0, 0, 0, 1), SeatSwap.BARRED);
            c.due("not free", x.come(8, 1, 0, 0, 1), SeatSwap.BARRED);
            c.due("the tape stays", x.truncate(0), 3);
            c.due("nothing changed", x.value(3) * 100 + x.value(16) * 10 + x.value(15), 100);
            c.due("not barred", x.come(7, 1, 0, 0, 1), 1);
        });
    }

    /** Tells whether come() takes just the numbers from least to most as one of its arguments. */
    private static void arguments(Check c, int which, int least, int most) {
        for (int number = least; number <= most; number++) {
            int[] a = {4, 0, 0, 0, 1};
            a[which] = number;
            SeatSwap x = new SeatSwap();
            c.due("argument " + number, Texts.come(x, "a", a[0], a[1], a[2], a[3], a[4]), 0);
            c.due("number", x.of(0, new int[] {0, 1, 2, 7, 8}[which]), number);
        }
        SeatSwap x = new SeatSwap();
        Texts.put(x, "a");
        for (int number : Edges.outside(least, most)) {
            int[] a = {4, 0, 0, 0, 1};
            a[which] = number;
            c.due("argument " + number, x.come(a[0], a[1], a[2], a[3], a[4]), SeatSwap.INVALID);
        }
        c.due("the tape stays", x.truncate(0), 1);
    }

    private static void setAndFirst(Edges e) {
        e.at("promise 7");
        e.plain("Sets a number of a traveller.", "a traveller");
        e.says("0 the like of the window, 1 of looking forward, 2 ROW, 3 PULLS, 4 TICKET", c -> {
            SeatSwap x = EdgesOfExchangesTest.all(";");
            for (int t = 0; t < 20; t += 19) {
                for (int what = 0; what <= 4; what++) {
                    c.due("set", x.set(t, what, 1), what < 2 ? 9 : 0);
                    int[] asked = {3, 4, 5, 6, 1};
                    c.due("number", x.of(t, asked[what]), what < 2 ? 10 : 1);
                    c.due("of another one", x.of(1, asked[what]), what < 2 ? 9 : 0);
                }
            }
            for (int what : Edges.outside(0, 4)) {
                c.due("what " + what, x.set(0, what, 0), SeatSwap.INVALID);
            }
        });
        e.says("a number in its range", c -> {
            int[] least = {-9, -9, 0, 0, 0};
            int[] most = {9, 9, 3, 3, 1};
            for (int what = 0; what <= 4; what++) {
                SeatSwap x = Texts.loaded("train 4 first 0;seat 4 a;");
                for (int number : Edges.outside(least[what], most[what])) {
                    c.due("set " + what + " " + number, x.set(0, what, number), SeatSwap.INVALID);
                }
                c.due("nothing changed", x.value(16), 0);
                int signed = what < 2 ? 9 : 0;
                c.due("most", x.set(0, what, most[what]), signed);
                c.due("least", x.set(0, what, least[what]), most[what] + signed);
                c.due("most", x.set(0, what, most[what]), least[what] + signed);
            }
        });
        e.says("Returns the former number, plus 9 for what 0 and 1; INVALID for an invalid argument;", c -> {
            SeatSwap x = Texts.loaded("train 4 first 0;seat 4 a;");
            for (int like = -9; like <= 8; like++) {
                x.set(0, 0, like);
                c.due("former", x.set(0, 0, like + 1), like + 9);
                x.set(0, 1, like);
                c.due("former", x.set(0, 1, like + 1), like + 9);
            }
            for (int t : Edges.outside(0, 0)) {
                c.due("traveller " + t, x.set(t, 0, 0), SeatSwap.INVALID);
            }
        });
        e.says("NOT_FOUND if it is so already;", c -> {
            for (int like = -9; like <= 9; like++) {
                String sign = EdgesOfTermsTest.signed(like);
                SeatSwap x = Texts.loaded("train 4 first 1;seat 3 a ticket window " + sign + " ahead " + sign
                    + " row 3 3;");
                c.due("window", x.set(0, 0, like), SeatSwap.NOT_FOUND);
                c.due("ahead", x.set(0, 1, like), SeatSwap.NOT_FOUND);
                c.due("row", x.set(0, 2, 3), SeatSwap.NOT_FOUND);
                c.due("pulls", x.set(0, 3, 3), SeatSwap.NOT_FOUND);
                c.due("ticket", x.set(0, 4, 1), SeatSwap.NOT_FOUND);
                c.due("no entry, no operation", x.value(15) + x.value(16), 0);
            }
        });
        e.says("BARRED if the TICKET would not allow the SEAT.", c -> {
            for (int first = 0; first <= 2; first++) {
                SeatSwap x = Texts.loaded("train 2 first " + first + ";seat 3 a ticket;seat 4 b ticket;");
                c.due("seat 3", x.set(0, 4, 0), first >= 1 ? SeatSwap.BARRED : 1);
                c.due("seat 4", x.set(1, 4, 0), first >= 2 ? SeatSwap.BARRED : 1);
                c.due("tickets", x.of(0, 1) + x.of(1, 1), first);
                c.due("entries", x.value(15), 2 - first);
            }
        });
        e.at("promise 8");
        e.plain("Sets FIRST.");
        e.says("0 to ROWS", c -> {
            for (int rows = 2; rows <= 10; rows++) {
                SeatSwap x = Texts.loaded("train " + rows + " first 0;");
                for (int first = 1; first <= rows; first++) {
                    c.due("first", x.first(first), first - 1);
                }
                for (int first : Edges.outside(0, rows)) {
                    c.due("first " + first, x.first(first), SeatSwap.INVALID);
                }
                c.due("first", x.first(0), rows);
            }
        });
        e.says("Returns the former one; INVALID for an invalid argument; NOT_FOUND if it is so already;", c -> {
            for (int first = 0; first <= 10; first++) {
                SeatSwap x = Texts.loaded("train 10 first " + first + ";");
                c.due("as it is", x.first(first), SeatSwap.NOT_FOUND);
                c.due("below", x.first(-1), SeatSwap.INVALID);
                c.due("above", x.first(11), SeatSwap.INVALID);
                c.due("no operation", x.value(16) + x.value(15), 0);
                c.due("former", x.first(10 - first), first == 5 ? SeatSwap.NOT_FOUND : first);
            }
        });
        e.says("BARRED if a TICKET would not allow a SEAT.", c -> {
            for (int seat = 0; seat < 16; seat++) {
                for (int first = 1; first <= 4; first++) {
                    SeatSwap x = Texts.loaded("train 4 first 0;seat " + seat + " a;");
                    boolean barred = seat / 4 < first;
                    c.due("seat " + seat, x.first(first), barred ? SeatSwap.BARRED : 0);
                    c.due("first", x.value(1), barred ? 0 : first);
                    SeatSwap y = Texts.loaded("train 4 first 0;seat " + seat + " a ticket;");
                    c.due("with a ticket", y.first(first), 0);
                }
            }
            c.due("the last of twenty", EdgesOfExchangesTest.all(";").first(1), SeatSwap.BARRED);
        });
    }

    private static void exchanges(Edges e) {
        e.at("promise 9");
        e.plain("Swaps.", "a traveller");
        e.says("another traveller", c -> {
            SeatSwap x = EdgesOfExchangesTest.all("sweets 9;");
            for (int t = 0; t < 20; t++) {
                c.due("itself", x.swap(t, t, 0), SeatSwap.INVALID);
                c.due("another one", x.swap(t, 19 - t, 0), 100);
            }
        });
        e.says("0 to 9", c -> {
            for (int sweets = 0; sweets <= 9; sweets++) {
                SeatSwap x = Texts.loaded("train 4 first 0;seat 1 a window +9 sweets 9;seat 0 b;");
                c.due("swap", x.swap(0, 1, sweets), 109);
                c.due("paid", x.value(11), sweets);
            }
            SeatSwap x = Texts.loaded("train 4 first 0;seat 1 a window +9 ahead +9 sweets 99;seat 7 b;");
            for (int sweets : Edges.outside(0, 9)) {
                c.due("sweets " + sweets, x.swap(0, 1, sweets), SeatSwap.INVALID);
            }
            c.due("nothing changed", x.value(16), 0);
        });
        e.says("Returns by how much the sum of the JOYs of both rises, plus 100; INVALID for an invalid argument or "
            + "twice the same traveller; or the refusal.", c -> {
            c.due("none", Texts.loaded("train 4 first 0;seat 1 a window +9 sweets 9;seat 0 b window +9;").swap(0, 1, 9),
                100);
            c.due("most", Texts.loaded("train 10 first 0;seat 37 a window +9 ahead -9 row 0 3;"
                + "seat 0 b window -9 ahead +9 row 9 3;").swap(0, 1, 0), 100 + 2 * (9 + 9 + 27));
            SeatSwap x = Texts.loaded("train 4 first 0;seat 1 a sweets 9;seat 8 b family 1;seat 0 d family 1;"
                + "seat 9 e family 1;seat 10 f;");
            c.due("of both, not of all", x.swap(4, 2, 0), 108);
            c.due("twice", x.swap(1, 1, 0), SeatSwap.INVALID);
            c.due("invalid", x.swap(5, 1, 0), SeatSwap.INVALID);
            c.due("refused", x.swap(0, 1, 0), -14);
        });
        e.at("promise 10");
        e.plain("Moves.", "a traveller");
        e.says("a SEAT", c -> {
            for (int seat = 0; seat < 16; seat++) {
                SeatSwap x = Texts.loaded("train 4 first 0;seat 6 a;");
                c.due("to " + seat, x.move(0, seat), seat == 6 ? -15 : 0);
                c.due("at", x.at(seat), 0);
                c.due("at the former one", x.at(6), seat == 6 ? 0 : SeatSwap.NOT_FOUND);
            }
        });
        e.says("Returns by how much the JOY rises; INVALID for an invalid argument; or the refusal.", c -> {
            SeatSwap x = Texts.loaded("train 10 first 0;seat 37 a window +9 ahead -9 row 0 3;");
            c.due("most", x.move(0, 0), 45);
            c.due("back", x.move(0, 37), -16);
            c.due("none", x.move(0, 3), 0);
            SeatSwap y = Texts.loaded("train 4 first 0;seat 0 a family 1;seat 8 b family 1;seat 9 d family 1;"
                + "seat 10 e family 1;");
            c.due("its own joy alone", y.move(0, 11), 12);
            c.due("sum", y.value(5), 10048);
            for (int t : Edges.outside(0, 3)) {
                c.due("traveller " + t, y.move(t, 5), SeatSwap.INVALID);
            }
            for (int seat : Edges.outside(0, 15)) {
                c.due("seat " + seat, y.move(0, seat), SeatSwap.INVALID);
            }
        });
        e.at("promise 11");
        e.plain("Forms a ring.", "a traveller");
        e.says("another traveller", c -> {
            SeatSwap x = six();
            c.due("first and second", x.ring(1, 1, 2), SeatSwap.INVALID);
            c.due("none other", x.ring(2, 2, 2), SeatSwap.INVALID);
        });
        e.says("a third one", c -> {
            SeatSwap x = six();
            c.due("first and third", x.ring(1, 2, 1), SeatSwap.INVALID);
            c.due("second and third", x.ring(1, 2, 2), SeatSwap.INVALID);
            c.due("0 and 0", x.ring(0, 1, 0), SeatSwap.INVALID);
            c.due("5 and 5", x.ring(5, 4, 5), SeatSwap.INVALID);
        });
        e.says("Returns by how much the sum of the JOYs of the three rises; INVALID for an invalid argument or if two "
            + "are the same; or the refusal.", c -> {
            SeatSwap x = Texts.loaded("train 10 first 0;seat 37 a window +9 ahead -9 row 0 3;"
                + "seat 0 b window -9 ahead +9 row 9 3;seat 1 d ahead +9 row 9 3;");
            c.due("much", x.ring(0, 1, 2), 45 + 9 + 36);
            c.due("back", x.ring(0, 2, 1), -16);
            SeatSwap y = Texts.loaded("train 4 first 0;seat 1 a family 1;seat 8 b;seat 9 d;seat 10 e family 1;"
                + "seat 11 f family 1;");
            c.due("of the three, not of all", y.ring(0, 1, 2), 8);
            c.due("sum", y.value(5), 10024);
            for (int t : Edges.outside(0, 4)) {
                c.due("one", y.ring(t, 1, 2), SeatSwap.INVALID);
                c.due("two", y.ring(1, t, 2), SeatSwap.INVALID);
                c.due("three", y.ring(1, 2, t), SeatSwap.INVALID);
            }
        });
        e.at("promise 12");
        e.plain("Settles.");
        e.says("Returns how many swaps are done; NOT_FOUND if none is.", c -> {
            SeatSwap x = new SeatSwap();
            c.due("nobody", x.settle(), SeatSwap.NOT_FOUND);
            c.due("no entry, no operation", x.value(15) + x.value(16) + x.value(8), 0);
            for (int many = 1; many <= 10; many++) {
                StringBuilder text = new StringBuilder("train 10 first 0;");
                for (int i = 0; i < many; i++) {
                    text.append("seat ").append(4 * i).append(" a;seat ").append(4 * i + 1).append(" b window +1 row ")
                        .append(i).append(" 3;");
                }
                SeatSwap y = Texts.loaded(text.toString());
                c.due("settle", y.settle(), many);
                c.due("swaps", y.value(8), many);
                c.due("settled", y.settle(), SeatSwap.NOT_FOUND);
                c.due("one entry, one operation", y.value(15) * 10 + y.value(16), 11);
            }
        });
    }

    private static void station(Edges e) {
        e.at("promise 13");
        e.plain("Goes on by stations.");
        e.says("1 to 50", c -> {
            for (int many = 1; many <= 50; many++) {
                SeatSwap x = Texts.loaded("train 4 first 0;seat 0 a stop " + many + ";seat 1 b stop " + (many + 1)
                    + ";");
                c.due("station " + many, x.station(many), 1);
                c.due("time", x.value(2), many);
                c.due("b is left", x.of(0, 0), 1);
            }
            SeatSwap x = new SeatSwap();
            for (int many : Edges.outside(1, 50)) {
                c.due("station " + many, x.station(many), SeatSwap.INVALID);
            }
            c.due("time", x.value(2), 0);
        });
        e.says("Returns how many travellers get off; INVALID for an invalid argument; FULL.", c -> {
            for (int many = 0; many <= 20; many++) {
                StringBuilder text = new StringBuilder("train 10 first 0;");
                for (int t = 0; t < 20; t++) {
                    text.append("seat ").append(t).append(" a stop ").append(t < many ? 1 + t % 7 : 8).append(";");
                }
                SeatSwap x = Texts.loaded(text.toString());
                c.due("get off", x.station(7), many);
                c.due("left", x.value(3), 20 - many);
                c.due("got off", x.value(12), many);
                c.due("one operation", x.value(16), 1);
                c.due("entries", x.value(15), many);
                c.due("undo", x.undo(), 0);
                c.due("all are back", x.value(3), 20);
            }
            SeatSwap x = Texts.loaded("train 4 first 0;seat 0 a stop 50;");
            for (int i = 1; i <= 19; i++) {
                c.due("get off", x.station(50), i == 1 ? 1 : 0);
            }
            Texts.come(x, "b", 0, 0, 0, 0, 99);
            int operations = x.value(16);
            c.due("above 999", x.station(50), SeatSwap.FULL);
            c.due("time", x.value(2), 950);
            c.due("operations", x.value(16), operations);
            c.due("up to 999", x.station(49), 0);
            c.due("above 999", x.station(1), SeatSwap.FULL);
            c.due("invalid", x.station(0), SeatSwap.INVALID);
        });
    }

    private static void slots(Edges e) {
        e.at("promise 14");
        e.plain("Keeps everything that operations change in a slot,");
        e.says("in place of what it had.", c -> {
            SeatSwap x = Texts.loaded("train 4 first 0;seat 0 a;");
            for (int seat = 1; seat < 16; seat++) {
                x.keep(0);
                x.move(0, seat);
            }
            x.keep(1);
            x.restore(0);
            c.due("the latest", x.of(0, 0), 14);
            x.restore(1);
            c.due("the other slot", x.of(0, 0), 15);
            Texts.come(x, "b", 1, 0, 0, 0, 1);
            c.due("two", x.keep(1), 2);
            x.station(1);
            c.due("one", x.keep(1), 1);
            x.undo();
            c.due("one is kept", x.restore(1), 1);
            c.due("b is not", x.of(1, 0), SeatSwap.INVALID);
        });
        e.says("0 or 1", c -> {
            SeatSwap x = six();
            for (int slot : Edges.outside(0, 1)) {
                c.due("keep " + slot, x.keep(slot), SeatSwap.INVALID);
            }
            c.due("0 is empty", x.restore(0), SeatSwap.NOT_FOUND);
            c.due("1 is empty", x.restore(1), SeatSwap.NOT_FOUND);
            c.due("keep 1", x.keep(1), 6);
            c.due("0 is empty", x.restore(0), SeatSwap.NOT_FOUND);
            c.due("1 is not", x.restore(1), 6);
            c.due("keep 0", x.keep(0), 6);
            c.due("0 is not", x.restore(0), 6);
        });
        e.says("Returns the number of travellers; INVALID for an invalid argument.", c -> {
            SeatSwap x = Texts.loaded("train 10 first 0;");
            for (int many = 0; many <= 20; many++) {
                c.due("keep", x.keep(many % 2), many);
                Texts.come(x, "a", many, 0, 0, 0, 1);
            }
            c.due("no operation but those", x.value(16), 8);
        });
        e.at("promise 15");
        e.says("Makes everything that operations change as it was kept in a slot; the slot keeps it.", c -> {
            SeatSwap x = EdgesOfTextsTest.busy();
            x.keep(1);
            String kept = Texts.state(x);
            x.settle();
            x.set(0, 4, 1);
            x.station(9);
            c.due("restore", x.restore(1), 2);
            c.dueText("as it was", Texts.state(x), kept);
            x.set(0, 4, 1);
            x.set(1, 0, 9);
            x.keep(0);
            c.due("restore", x.restore(1), 2);
            c.dueText("the slot keeps it", Texts.state(x), kept);
            Texts.come(x, "new", 15, 0, 9, 99, 99);
            c.due("three", x.value(3), 3);
            c.due("restore", x.restore(1), 2);
            c.due("nobody at 15", x.at(15), SeatSwap.NOT_FOUND);
            c.due("nobody of the family", x.family(9, 0), 0);
        });
        e.says("0 or 1", c -> {
            SeatSwap x = six();
            x.keep(0);
            x.keep(1);
            for (int slot : Edges.outside(0, 1)) {
                c.due("restore " + slot, x.restore(slot), SeatSwap.INVALID);
            }
            c.due("no operation", x.value(16), 0);
        });
        e.says("Returns the number of travellers then; INVALID for an invalid argument; NOT_FOUND if the slot is "
            + "empty.", c -> {
            SeatSwap x = Texts.loaded("train 10 first 0;");
            c.due("empty", x.restore(0), SeatSwap.NOT_FOUND);
            c.due("no operation", x.value(16), 0);
            x.keep(0);
            for (int many = 1; many <= 20; many++) {
                Texts.come(x, "a", many, 0, 0, 0, 1);
                x.keep(1);
                c.due("none", x.restore(0), 0);
                c.due("many", x.restore(1), many);
            }
            Texts.load(x, "train 4 first 1;");
            c.due("empty", x.restore(0), SeatSwap.NOT_FOUND);
            c.due("empty", x.restore(1), SeatSwap.NOT_FOUND);
        });
    }

    private static void undo(Edges e) {
        e.at("promise 16");
        e.plain("Undoes the latest operation (section 7)");
        e.says("that has not been undone.", c -> {
            SeatSwap x = Texts.loaded("train 10 first 0;seat 0 a;");
            x.move(0, 1);
            x.move(0, 2);
            x.undo();
            x.move(0, 3);
            x.undo();
            c.due("seat", x.of(0, 0), 1);
            x.undo();
            c.due("seat", x.of(0, 0), 0);
            c.due("none", x.undo(), SeatSwap.INVALID);
            c.due("none", x.undo(), SeatSwap.INVALID);
            c.due("seat", x.of(0, 0), 0);
        });
        e.says("Returns the number of operations that can still be undone; INVALID if there is none.", c -> {
            SeatSwap x = new SeatSwap();
            c.due("none", x.undo(), SeatSwap.INVALID);
            for (int many = 1; many <= 12; many++) {
                for (int i = 0; i < many; i++) {
                    c.due("operation", x.station(1), 0);
                }
                int most = many < 8 ? many : 8;
                for (int left = most - 1; left >= 0; left--) {
                    c.due("undo", x.undo(), left);
                }
                c.due("none", x.undo(), SeatSwap.INVALID);
            }
            x.station(1);
            Texts.load(x, "train 4 first 1;");
            c.due("none after a load", x.undo(), SeatSwap.INVALID);
        });
    }
}
