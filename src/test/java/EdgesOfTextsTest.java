import java.util.ArrayList;
import java.util.List;

/** The edges that section 6 of the document's terms and the promises 1 to 5 name: setup texts and the tape. */
public final class EdgesOfTextsTest {
    private static final int OK = SeatSwap.NOT_FOUND;
    private static final String[] KEYWORDS = {"train", "first", "seat", "ticket", "family", "window", "ahead", "row",
        "sweets", "stop"};

    public static void main(String[] args) {
        Edges edges = new Edges();
        list(edges);
        edges.run("EdgesOfTextsTest");
    }

    static void list(Edges e) {
        tokens(e);
        grammar(e);
        errors(e);
        newObject(e);
        tape(e);
        load(e);
        errorPosition(e);
    }

    /** Loads a text and asks for its error position; OK if there is none. */
    private static void text(Check c, String text, int due) {
        SeatSwap x = new SeatSwap();
        c.due("tape", Texts.put(x, text), text.length());
        int answer = x.load();
        c.due("error of \"" + text + "\"", x.errorPosition(), due);
        c.that("load of \"" + text + "\" answered " + answer, due == OK ? answer >= 0 : answer == SeatSwap.INVALID);
    }

    private static void tokens(Edges e) {
        e.at("term 6");
        e.says("Tokens are formed greedily.", c -> {
            text(c, "train 22 first 0;", 6);
            text(c, "train 2 first 10;", 14);
            text(c, "train2first2;", OK);
            text(c, "trainfirst2;", 0);
            text(c, "train 2 first 0;seat 0 aticket;", 23);
            text(c, "train 2 first 0;seat 0 tick et;", 28);
            text(c, "train 2 first 0;seat0a;seat1b;", OK);
            text(c, "train 2 first 0;seat 0 a ticketfamily 1;", 25);
            text(c, "train 2 first 0;seat 0 a family1window+1ahead-1row1 1sweets1stop1;", OK);
            text(c, "train 2 first 0;seat 0 a row 11;", 29);
        });
        e.says("White space (bytes 32 and 10) may stand before the first token, between any two tokens and after the "
            + "last one.", c -> {
            for (int one = 0; one < 256; one++) {
                char sign = (char) one;
                boolean white = one == 32 || one == 10;
                text(c, sign + "train 2 first 0;", white ? OK : 0);
                text(c, "train 2 first 0;" + sign, white ? OK : 16);
                if (!(one >= '0' && one <= '9' || one >= 'a' && one <= 'z' || one == ';')) {
                    text(c, "train" + sign + "2 first 0;", white ? OK : 5);
                    text(c, "train 2 first 0" + sign + ";", white ? OK : 15);
                }
            }
            text(c, " \n\n  \n", 6);
            text(c, "", 0);
            text(c, "\n train \n 2 \n first \n 0 \n ; \n seat \n 0 \n a \n ticket \n family \n 1 \n window \n + \n 1 "
                + "\n ahead \n - \n 1 \n row \n 1 \n 1 \n sweets \n 1 \n stop \n 1 \n ; \n ", OK);
            text(c, "train 2 first 0;seat 0 a b;", 25);
            text(c, "train 2 first 0;seat 0 a row 1 \n 1 1;", 35);
            text(c, "train 1 0 first 0;", 6);
            text(c, "tra in 2 first 0;", 0);
        });
        e.says("A maximal run of the letters a to z is a word; a word that is quoted in the grammar is a keyword,",
            c -> {
            for (String keyword : KEYWORDS) {
                text(c, "train 2 first 0;seat 0 " + keyword + ";", 23);
                SeatSwap x = new SeatSwap();
                c.due("come " + keyword, Texts.come(x, keyword, 4, 0, 0, 0, 1), SeatSwap.INVALID);
                String less = keyword.substring(0, keyword.length() - 1);
                text(c, "train 2 first 0;seat 0 " + less + ";", OK);
                text(c, "train 2 first 0;seat 0 " + keyword.substring(1) + ";", OK);
                text(c, "train 2 first 0;seat 0 " + keyword + "s;", keyword.length() < 5 ? OK : 23);
                text(c, "train 2 first 0;seat 0 " + keyword.toUpperCase() + ";", 23);
            }
            String all = "train 2 first 0;seat 0 a ticket family 1 window +1 ahead -1 row 1 1 sweets 1 stop 1;";
            for (String keyword : KEYWORDS) {
                int start = all.indexOf(keyword);
                for (int i = start; i < start + keyword.length(); i++) {
                    text(c, all.substring(0, i) + 'q' + all.substring(i + 1), start);
                }
            }
            text(c, all, OK);
        });
        e.says("any other one of 1 to 5 letters is a NAME.", c -> {
            for (int length = 1; length <= 12; length++) {
                text(c, "train 2 first 0;seat 0 " + "az".repeat(6).substring(0, length) + ";", length <= 5 ? OK : 23);
            }
            for (char letter = 'a'; letter <= 'z'; letter++) {
                SeatSwap x = Texts.loaded("train 2 first 0;seat 0 " + letter + letter + ";");
                c.due("letter", x.letter(0, 1), letter - 'a' + 1);
            }
            for (int one : new int[] {'a' - 1, 'z' + 1, 'A', 'Z', '_', '0', 128 + 'a', 0, 255}) {
                text(c, "train 2 first 0;seat 0 " + (char) one + ";", 23);
                text(c, "train 2 first 0;seat 0 a" + (char) one + ";", 24);
            }
        });
        e.says("A maximal run of digits is an INT; it has 1 or 2 digits.", c -> {
            text(c, "train 02 first 00;seat 07 a family 09 window +09 ahead -00 row 01 03 sweets 00 stop 01;", OK);
            text(c, "train 002 first 0;", 6);
            text(c, "train 2 first 000;", 14);
            text(c, "train 2 first 0;seat 007 a;", 21);
            text(c, "train 2 first 0;seat 0 a family 001;", 32);
            text(c, "train 2 first 0;seat 0 a window +001;", 33);
            text(c, "train 2 first 0;seat 0 a ahead -000;", 32);
            text(c, "train 2 first 0;seat 0 a row 001 1;", 29);
            text(c, "train 2 first 0;seat 0 a row 1 001;", 31);
            text(c, "train 2 first 0;seat 0 a sweets 099;", 32);
            text(c, "train 2 first 0;seat 0 a stop 099;", 30);
            text(c, "train 4294967298 first 0;", 6);
            text(c, "train " + "0".repeat(900) + "2 first 0;", 6);
            for (int one : new int[] {'0' - 1, '9' + 1, 128 + '2'}) {
                text(c, "train " + (char) one + " first 0;", 6);
                text(c, "train 2" + (char) one + " first 0;", 7);
            }
        });
        e.says("The plus sign, the minus sign and the semicolon are tokens by themselves. Nothing else is a token.",
            c -> {
            text(c, "train 2 first 0;seat 0 a window+1ahead-1;", OK);
            text(c, "train 2 first 0;seat 0 a window + 1 ahead - \n 1 ;", OK);
            text(c, "train 2 first 0;seat 0 a window ++1;", 33);
            text(c, "train 2 first 0;seat 0 a window +-1;", 33);
            text(c, "train 2 first 0;seat 0 a ahead --1;", 32);
            text(c, "train 2 first 0;;", 16);
            text(c, "train 2 first 0;seat 0 a;;", 25);
            text(c, "train +2 first 0;", 6);
            for (int one = 0; one < 256; one++) {
                boolean known = one == 32 || one == 10 || one == ';' || one >= '0' && one <= '9' || one >= 'a'
                    && one <= 'z';
                if (!known) {
                    text(c, "train 2 first 0;seat 0 a" + (char) one + ";", 24);
                    text(c, "train 2 first 0;seat 0" + (char) one + " a;", 22);
                    text(c, "train 2 first 0;seat 0 a window +" + (char) one + "1;", 33);
                }
            }
        });
    }

    private static void grammar(Edges e) {
        e.says("setup = \"train\" INT \"first\" INT \";\" { \"seat\" INT NAME", c -> {
            text(c, "train 2 first 0;", OK);
            text(c, "train 2 first 0 seat 0 a;", 16);
            text(c, "first 0 train 2;", 0);
            text(c, "train 2;", 7);
            text(c, "train first 0 2;", 6);
            text(c, "train 2 first 0;train 2 first 0;", 16);
            text(c, "train 2 first 0;seat a 0;", 21);
            text(c, "train 2 first 0;seat 0;", 22);
            text(c, "train 2 first 0;0 a;", 16);
            text(c, "train 2 first 0;a;", 16);
        });
        e.says("[ \"ticket\" ] [ \"family\" INT ] [ \"window\" like ] [ \"ahead\" like ] [ \"row\" INT INT ] [ "
            + "\"sweets\" INT ] [ \"stop\" INT ] \";\" }", EdgesOfTextsTest::parts);
        e.says("like = ( \"+\" | \"-\" ) INT", c -> {
            text(c, "train 2 first 0;seat 0 a window 1;", 32);
            text(c, "train 2 first 0;seat 0 a window +;", 33);
            text(c, "train 2 first 0;seat 0 a window;", 31);
            text(c, "train 2 first 0;seat 0 a ahead 0;", 31);
            text(c, "train 2 first 0;seat 0 a ahead + ahead -1;", 33);
            text(c, "train 2 first 0;seat 0 a ahead a;", 31);
            text(c, "train 2 first 0;seat 0 a row +1 1;", 29);
            text(c, "train 2 first 0;seat 0 a sweets +1;", 32);
        });
        e.says("The INTs are ROWS, FIRST; the SEAT of a traveller; FAMILY (1 to 9); likes of the window and of "
            + "looking forward (0 to 9 behind the sign); ROW and PULLS; SWEETS; STOP.", c -> {
            for (int i = 0; i <= 99; i++) {
                text(c, "train " + i + " first 0;", i >= 2 && i <= 10 ? OK : 6);
                text(c, "train 10 first " + i + ";", i <= 10 ? OK : 15);
                text(c, "train 3 first " + i + ";", i <= 3 ? OK : 14);
                text(c, "train 10 first 0;seat " + i + " a;", i <= 39 ? OK : 22);
                text(c, "train 2 first 0;seat " + i + " a;", i <= 7 ? OK : 21);
                text(c, "train 2 first 0;seat 0 a family " + i + ";", i >= 1 && i <= 9 ? OK : 32);
                text(c, "train 2 first 0;seat 0 a window +" + i + ";", i <= 9 ? OK : 33);
                text(c, "train 2 first 0;seat 0 a window -" + i + ";", i <= 9 ? OK : 33);
                text(c, "train 2 first 0;seat 0 a ahead +" + i + ";", i <= 9 ? OK : 32);
                text(c, "train 2 first 0;seat 0 a ahead -" + i + ";", i <= 9 ? OK : 32);
                text(c, "train 2 first 0;seat 0 a row " + i + " 0;", i <= 1 ? OK : 29);
                text(c, "train 10 first 0;seat 0 a row " + i + " 0;", i <= 9 ? OK : 30);
                text(c, "train 2 first 0;seat 0 a row 0 " + i + ";", i <= 3 ? OK : 31);
                text(c, "train 2 first 0;seat 0 a sweets " + i + ";", OK);
                text(c, "train 2 first 0;seat 0 a stop " + i + ";", i >= 1 ? OK : 30);
            }
        });
        e.says("Without them TICKET, FAMILY, likes, ROW, PULLS and SWEETS are 0, and STOP is 99.", c -> {
            SeatSwap x = Texts.loaded("train 4 first 0;seat 0 a ticket family 9 window +9 ahead +9 row 3 3 sweets 99 "
                + "stop 1;seat 15 b;");
            int[] due = {15, 0, 0, 9, 9, 0, 0, 0, 99};
            for (int what = 0; what <= 8; what++) {
                c.due("number " + what, x.of(1, what), due[what]);
            }
        });
    }

    /** Each choice of the seven parts, and each two neighbours in the wrong order. */
    private static void parts(Check c) {
        String[] parts = {"ticket ", "family 1 ", "window +1 ", "ahead -1 ", "row 1 1 ", "sweets 1 ", "stop 1 "};
        int[] what = {1, 2, 3, 4, 5, 7, 8};
        int[] with = {1, 1, 10, 8, 1, 1, 1};
        int[] without = {0, 0, 9, 9, 0, 0, 99};
        for (int choice = 0; choice < 128; choice++) {
            StringBuilder text = new StringBuilder("train 2 first 0;seat 0 a ");
            for (int i = 0; i < 7; i++) {
                text.append((choice >> i & 1) == 1 ? parts[i] : "");
            }
            SeatSwap x = Texts.loaded(text + ";");
            for (int i = 0; i < 7; i++) {
                c.due("part " + i + " of " + text, x.of(0, what[i]), (choice >> i & 1) == 1 ? with[i] : without[i]);
            }
        }
        for (int i = 0; i < 7; i++) {
            for (int j = 0; j <= i; j++) {
                String begin = "train 2 first 0;seat 0 a " + parts[i];
                text(c, begin + parts[j] + ";", begin.length());
            }
        }
    }

    private static void errors(Edges e) {
        e.says("The error position is the index of the first byte of the first token that cannot stand where it "
            + "stands;",
            c -> {
                text(c, "train 2 first 0;seat 9 a family 0;", 21);
                text(c, "train 2 first 0;seat 0 a family 0 stop 0;", 32);
                text(c, "train 2 first 0;seat 0 a;seat 0 b;seat 0 d;", 30);
                text(c, "\n\ntrain 2 first 0;\nseat 0 seat;", 26);
                text(c, "train 2 first 0; ?", 17);
                text(c, "train 2 first 0;seat 0 abcdefghijkl;?", 23);
                text(c, "train 2 first 0;seat 123 a;", 21);
                text(c, "?train 2 first 0;", 0);
                text(c, " ;", 1);
            });
        e.says("it is the length of the text if the text ends too early.", EdgesOfTextsTest::tooEarly);
        e.says("The following tokens cannot stand, either: an INT out of range;", c -> {
            text(c, "train 11", 6);
            text(c, "train 2 first 3", 14);
            text(c, "train 2 first 0;seat 8", 21);
            text(c, "train 2 first 0;seat 0 a family 0", 32);
            text(c, "train 2 first 0;seat 0 a window +10", 33);
            text(c, "train 2 first 0;seat 0 a ahead -10", 32);
            text(c, "train 2 first 0;seat 0 a row 2", 29);
            text(c, "train 2 first 0;seat 0 a row 1 4", 31);
            text(c, "train 2 first 0;seat 0 a sweets 100", 32);
            text(c, "train 2 first 0;seat 0 a stop 0", 30);
        });
        e.says("a SEAT that is not free;", c -> {
            text(c, "train 2 first 0;seat 0 a;seat 0", 30);
            text(c, "train 2 first 0;seat 0 a;seat 00 b;", 30);
            text(c, "train 2 first 0;seat 7 a;seat 1 b;seat 07 d;", 39);
            text(c, "train 2 first 0;seat 7 a;seat 8 b;", 30);
            text(c, "train 2 first 0;seat 0 a;seat 1 b;", OK);
            text(c, "train 10 first 0;seat 39 a;seat 38 b;seat 39 d;", 42);
        });
        e.says("the semicolon of a traveller whose TICKET does not allow the SEAT;", c -> {
            for (int first = 0; first <= 2; first++) {
                text(c, "train 2 first " + first + ";seat 3 a;", first >= 1 ? 24 : OK);
                text(c, "train 2 first " + first + ";seat 4 a ;", first >= 2 ? 25 : OK);
                text(c, "train 2 first " + first + ";seat 3 a stop 9\n;", first >= 1 ? 32 : OK);
                text(c, "train 2 first " + first + ";seat 3 a ticket;seat 7 b ticket stop 9;", OK);
                text(c, "train 2 first " + first + ";seat 3 a stop 0;", 30);
                text(c, "train 2 first " + first + ";seat 3 a", 24);
                text(c, "train 2 first " + first + ";seat 3 a ticket;seat 4 b;", first >= 2 ? 40 : OK);
            }
        });
        e.says("the keyword of a 21st traveller.", c -> {
            StringBuilder twenty = new StringBuilder("train 10 first 0;");
            for (int seat = 20; seat < 40; seat++) {
                twenty.append("seat ").append(seat).append(" a;");
            }
            int length = twenty.length();
            text(c, twenty.toString(), OK);
            text(c, twenty + " \n ", OK);
            text(c, twenty + "seat 0 a;", length);
            text(c, twenty + "\n\nseat 20 a;", length + 2);
            text(c, twenty + "seat", length);
            text(c, twenty + ";", length);
            text(c, twenty + "sea", length);
        });
    }

    /** Each beginning of a text: a word that is cut off is no keyword, but a name; a number that is cut off is one,
        too. */
    private static void tooEarly(Check c) {
        List<String> tokens = new ArrayList<>();
        String all = "train 10 first 10 ;seat 10 abcde ticket family 9 window + 9 ahead - 9 row 9 3 sweets 10 stop 10 "
            + ";";
        for (String token : all.replace(";", "; ").replace("  ", " ").trim().split(" ")) {
            tokens.add(token);
        }
        StringBuilder text = new StringBuilder();
        for (String token : tokens) {
            int start = text.length();
            for (int i = 0; i < token.length(); i++) {
                boolean mayEnd = i == 0 || token.equals("abcde") || Character.isDigit(token.charAt(0));
                // The 1 of "train 10" alone would be too few rows.
                text(c, text.toString(), mayEnd && start + i != 7 ? endOf(text) : start);
                text.append(token.charAt(i));
            }
            text(c, text.toString(), endOf(text));
            text.append(' ');
        }
        text(c, " ".repeat(1000), 1000);
        text(c, "train 2 first 0" + " ".repeat(985), 1000);
        text(c, "train 2 first 0;" + " ".repeat(984), OK);
        text(c, " ".repeat(984) + "train 2 first 0;", OK);
        text(c, " ".repeat(985) + "train 2 first 0", 1000);
        text(c, " ".repeat(999) + "t", 999);
    }

    private static int endOf(StringBuilder text) {
        return text.toString().trim().endsWith(";") ? OK : text.length();
    }

    private static void newObject(Edges e) {
        e.at("promise 1");
        e.says("Creates a train as by the setup text \"train 4 first 1;\";", c -> {
            SeatSwap x = new SeatSwap();
            SeatSwap y = Texts.loaded("train 4 first 1;");
            c.dueText("state", Texts.state(x), Texts.state(y));
            c.dueText("setup", Texts.setup(x), "train 4 first 1;");
            c.dueText("plan", Texts.plan(x), "=<....\n->....\n-<....\n->....\n");
            c.due("error position", x.errorPosition(), SeatSwap.NOT_FOUND);
            c.due("operations", x.value(16), 0);
        });
        e.says("the log, the slots and the tape are empty.", c -> {
            SeatSwap x = new SeatSwap();
            c.due("log", x.log(0, 0), SeatSwap.NOT_FOUND);
            c.due("entries", x.value(15), 0);
            c.due("slot 0", x.restore(0), SeatSwap.NOT_FOUND);
            c.due("slot 1", x.restore(1), SeatSwap.NOT_FOUND);
            c.due("tape", x.truncate(0), 0);
            c.due("tape", x.truncate(1), SeatSwap.INVALID);
            c.due("undo", x.undo(), SeatSwap.INVALID);
        });
    }

    private static void tape(Edges e) {
        e.at("promise 2");
        e.says("Appends twenty bytes to the tape: the four bytes of a, most significant byte first, then those of b, "
            + "c, d and e.", c -> {
            SeatSwap x = new SeatSwap();
            c.due("append", x.append(0x20202020, 0x20202020, 0x20202020, 0x20202020, 0x20202074), 20);
            c.due("append", x.append(0x7261696e, 0x32666972, 0x7374313b, 0x73656174, 0x34207878), 40);
            c.due("append", x.append(0x79797a3b, 0x0a200a20, 0x0a200a20, 0x0a200a20, 0x0a200a0a), 60);
            c.due("load", x.load(), 1);
            c.dueText("name", Texts.name(x, 0), "xxyyz");
            for (int place = 0; place < 20; place++) {
                int[] words = {0x20202020, 0x20202020, 0x20202020, 0x20202020, 0x20202020};
                words[place / 4] ^= (0x20 ^ 0xff) << 24 - 8 * (place % 4);
                SeatSwap y = new SeatSwap();
                y.append(words[0], words[1], words[2], words[3], words[4]);
                y.load();
                c.due("byte 255 at " + place, y.errorPosition(), place);
            }
        });
        e.plain("bytes 0 to 3", "bytes 4 to 7", "bytes 8 to 11", "bytes 12 to 15", "bytes 16 to 19");
        e.says("Returns the new length of the tape; INVALID if it would exceed 1000 bytes (nothing is appended).",
            c -> {
            for (int cut = 0; cut <= 20; cut++) {
                SeatSwap x = new SeatSwap();
                for (int i = 1; i <= 50; i++) {
                    c.due("append", x.append(0x20202020, 0x20202020, 0x20202020, 0x20202020, 0x20202020), 20 * i);
                }
                c.due("full", x.append(0, 0, 0, 0, 0), SeatSwap.INVALID);
                c.due("cut", x.truncate(cut), 1000 - cut);
                int due = cut == 20 ? 1000 : SeatSwap.INVALID;
                c.due("with room for " + cut, x.append(0x3b3b3b3b, 0, 0, 0, 0), due);
                c.due("length", x.truncate(0), cut == 20 ? 1000 : 1000 - cut);
                x.load();
                c.due("what it has", x.errorPosition(), cut == 20 ? 980 : 1000 - cut);
                c.due("room again", x.append(0, 0, 0, 0, 0), 20);
            }
        });
        e.at("promise 3");
        e.plain("Removes the last bytes of the tape.");
        e.says("number of bytes, 0 to the length of the tape", c -> {
            SeatSwap x = new SeatSwap();
            x.append(0x74726169, 0x6e203266, 0x69727374, 0x20303b3b, 0x3b3b3b3b);
            c.due("none", x.truncate(0), 20);
            c.due("some", x.truncate(5), 15);
            c.due("one", x.truncate(1), 14);
            c.due("none", x.truncate(0), 14);
            c.due("the last ones went", x.load(), SeatSwap.INVALID);
            c.due("the text ends too early", x.errorPosition(), 14);
            for (int length = 0; length <= 20; length++) {
                SeatSwap y = new SeatSwap();
                y.append(0, 0, 0, 0, 0);
                y.truncate(20 - length);
                c.due("one more than all", y.truncate(length + 1), SeatSwap.INVALID);
                c.due("all", y.truncate(length), 0);
                c.due("none of none", y.truncate(0), 0);
            }
        });
        e.says("Returns the new length of the tape; INVALID if n is out of range.", c -> {
            SeatSwap x = new SeatSwap();
            for (int i = 0; i < 50; i++) {
                x.append(i, i, i, i, i);
            }
            for (int n : Edges.outside(0, 1000)) {
                c.due("truncate " + n, x.truncate(n), SeatSwap.INVALID);
            }
            c.due("it stays", x.truncate(0), 1000);
            c.due("all but one", x.truncate(999), 1);
            c.due("two", x.truncate(2), SeatSwap.INVALID);
            c.due("one", x.truncate(1), 0);
        });
    }

    private static void load(Edges e) {
        e.at("promise 4");
        e.says("Parses the tape as a setup; the tape is empty afterwards.", c -> {
            SeatSwap x = new SeatSwap();
            c.due("right", Texts.load(x, "train 2 first 0;"), 0);
            c.due("tape", x.truncate(0), 0);
            c.due("wrong", Texts.load(x, "train 2 first 0"), SeatSwap.INVALID);
            c.due("tape", x.truncate(0), 0);
            c.due("tape", x.truncate(1), SeatSwap.INVALID);
            c.due("empty", x.load(), SeatSwap.INVALID);
            c.due("error", x.errorPosition(), 0);
            c.due("not what was", Texts.come(x, "b", 4, 0, 0, 0, 1), 0);
        });
        e.says("On an error everything but the tape and the error position stays.", c -> {
            SeatSwap x = busy();
            String before = Texts.state(x);
            String plan = Texts.plan(x);
            c.due("load", Texts.load(x, "train 10 first 10;seat 0 q ticket;seat 0 r;"), SeatSwap.INVALID);
            c.dueText("state", Texts.state(x), before);
            c.dueText("plan", Texts.plan(x), plan);
            c.due("operations", x.value(16), 8);
            c.due("undo", x.undo(), 7);
            c.due("slot 0", x.restore(0), 2);
            c.due("slot 1", x.restore(1), SeatSwap.NOT_FOUND);
        });
        e.says("Otherwise everything is replaced (TIME and all counts are 0), the log and the slots are empty, and "
            + "nothing can be undone.", c -> {
            for (String same : new String[] {"train 4 first 1;", "train 10 first 0;seat 39 z;", "train 2 first 2;"}) {
                SeatSwap x = busy();
                x.ifSettled(0);
                Texts.load(x, "train 9 first 1;seat 5 a family 1;seat 6 b family 2;;");
                Texts.load(x, same);
                SeatSwap y = Texts.loaded(same);
                for (int what = 0; what <= 16; what++) {
                    c.due("value " + what, x.value(what), y.value(what));
                    c.that("count " + what, what < 7 || what > 12 || x.value(what) == 0);
                }
                c.dueText("setup", Texts.setup(x), same);
                c.due("log", x.log(0, 0), SeatSwap.NOT_FOUND);
                c.due("slot", x.restore(0), SeatSwap.NOT_FOUND);
                c.due("undo", x.undo(), SeatSwap.INVALID);
                c.due("error", x.errorPosition(), SeatSwap.NOT_FOUND);
                c.due("keep", x.keep(0), y.value(3));
                c.due("restore", x.restore(0), y.value(3));
                c.due("the other slot", x.restore(1), SeatSwap.NOT_FOUND);
                c.due("family", x.family(1, 0), 0);
                Texts.come(x, "a", 7, 1, 1, 0, 1);
                c.due("joy", x.joyAt(y.value(3), 4), 100);
                c.dueText("entry", EdgesOfExchangesTest.entry(x, 0), "0/" + y.value(3) + "/7");
            }
        });
        e.says("Returns the number of travellers; INVALID on an error.", c -> {
            StringBuilder text = new StringBuilder("train 5 first 0;");
            SeatSwap x = new SeatSwap();
            c.due("none", Texts.load(x, text.toString()), 0);
            for (int many = 1; many <= 20; many++) {
                text.append("seat ").append(many - 1).append(" a;");
                c.due("many", Texts.load(new SeatSwap(), text.toString()), many);
            }
            text.append("seat 20 a;");
            c.due("one more", Texts.load(new SeatSwap(), text.toString()), SeatSwap.INVALID);
            c.due("error", Texts.load(x, "x"), SeatSwap.INVALID);
        });
    }

    /** A train in which all counts are above 0, with a log, a slot and eight operations. */
    static SeatSwap busy() {
        SeatSwap x = Texts.loaded("train 4 first 0;seat 5 a window +9 sweets 9;seat 4 b;seat 12 d window -9 stop 1;");
        x.swap(0, 1, 3);
        x.set(0, 0, 0);
        x.ring(0, 1, 2);
        x.move(1, 9);
        x.set(0, 1, 3);
        x.station(3);
        x.first(1);
        x.keep(0);
        x.set(1, 2, 2);
        x.set(1, 3, 1);
        return x;
    }

    private static void errorPosition(Edges e) {
        e.at("promise 5");
        e.plain("Returns the error position of the latest load.");
        e.says("Returns the position; NOT_FOUND if that load succeeded or there was no load.", c -> {
            SeatSwap x = new SeatSwap();
            c.due("no load", x.errorPosition(), SeatSwap.NOT_FOUND);
            Texts.load(x, "?");
            c.due("position 0", x.errorPosition(), 0);
            c.due("it stays", x.errorPosition(), 0);
            Texts.load(x, "train 4 ?");
            c.due("the latest one", x.errorPosition(), 8);
            Texts.come(x, "a", 4, 0, 0, 0, 1);
            x.keep(0);
            x.restore(0);
            x.undo();
            c.due("other calls leave it", x.errorPosition(), 8);
            Texts.load(x, " ".repeat(1000));
            c.due("the greatest one", x.errorPosition(), 1000);
            Texts.load(x, "train 4 first 0;");
            c.due("success", x.errorPosition(), SeatSwap.NOT_FOUND);
        });
    }
}
