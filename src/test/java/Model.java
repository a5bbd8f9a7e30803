import java.util.ArrayList;
import java.util.Arrays;
import java.util.Comparator;
import java.util.List;
import java.util.Set;
import java.util.TreeSet;

/**
 * The document once more, written as slowly and as literally as can be: every question is answered from a copy of
 * the whole state, so that SeatSwap and this class hardly go wrong in the same way.
 */
final class Model {
    private static final int INVALID = -1, NOT_FOUND = -2, FULL = -3, BARRED = -4;
    private static final Set<String> KEYWORDS = new TreeSet<>(Arrays.asList("train", "first", "seat", "ticket",
        "family", "window", "ahead", "row", "sweets", "stop"));

    private static final class Person {
        String name = "";
        int seat, ticket, family, window, ahead, row, pulls, sweets, stop = 99;

        Person copy() {
            Person p = new Person();
            p.name = name;
            p.seat = seat;
            p.ticket = ticket;
            p.family = family;
            p.window = window;
            p.ahead = ahead;
            p.row = row;
            p.pulls = pulls;
            p.sweets = sweets;
            p.stop = stop;
            return p;
        }
    }

    private static final class State {
        int rows = 4, first = 1, time;
        int[] counts = new int[5];
        List<Person> people = new ArrayList<>();
        List<int[]> log = new ArrayList<>();

        State copy() {
            State s = new State();
            s.rows = rows;
            s.first = first;
            s.time = time;
            s.counts = counts.clone();
            for (Person p : people) {
                s.people.add(p.copy());
            }
            s.log.addAll(log);
            return s;
        }

        void note(int kind, int one, int two) {
            log.add(new int[] {kind, one, two});
            if (log.size() > 40) {
                log.remove(0);
            }
        }

        int owner(int seat) {
            for (int i = 0; i < people.size(); i++) {
                if (people.get(i).seat == seat) {
                    return i;
                }
            }
            return NOT_FOUND;
        }

        boolean allowed(int ticket, int seat) {
            boolean firstClass = seat / 4 < first;
            return !(firstClass && ticket == 0);
        }

        int kin(int t) {
            Person me = people.get(t);
            int kin = 0;
            for (int i = 0; i < people.size(); i++) {
                Person p = people.get(i);
                if (i != t && me.family != 0 && p.family == me.family && p.seat / 4 / 2 == me.seat / 4 / 2) {
                    kin++;
                }
            }
            return kin;
        }

        int joy(int t) {
            Person me = people.get(t);
            int row = me.seat / 4, column = me.seat % 4;
            int joy = 0;
            if (column == 0 || column == 3) {
                joy += me.window;
            }
            if (row == 1 || row == 3 || row == 5 || row == 7 || row == 9) {
                joy += me.ahead;
            }
            int away = row > me.row ? row - me.row : me.row - row;
            return joy - me.pulls * away + 4 * kin(t);
        }

        int sum() {
            int sum = 0;
            for (int t = 0; t < people.size(); t++) {
                sum += joy(t);
            }
            return sum;
        }

        int grumble() {
            int many = 0;
            for (int t = 0; t < people.size(); t++) {
                many += joy(t) < 0 ? 1 : 0;
            }
            return many;
        }

        /** Everybody in who[i] gets the seat of who[i + 1], the last one that of the first one. */
        State passed(int... who) {
            State s = copy();
            for (int i = 0; i < who.length; i++) {
                s.people.get(who[i]).seat = people.get(who[(i + 1) % who.length]).seat;
            }
            return s;
        }

        State seated(int t, int seat) {
            State s = copy();
            s.people.get(t).seat = seat;
            return s;
        }

        boolean allAllowed(int... who) {
            for (int t : who) {
                if (!allowed(people.get(t).ticket, people.get(t).seat)) {
                    return false;
                }
            }
            return true;
        }

        int whySwap(int a, int b, int sweets) {
            State then = passed(a, b);
            if (!then.allAllowed(a, b)) {
                return 1;
            }
            if (people.get(a).sweets < sweets) {
                return 2;
            }
            if (then.joy(a) - joy(a) < sweets) {
                return 3;
            }
            return joy(b) - then.joy(b) > sweets ? 4 : 0;
        }

        int whyMove(int t, int seat) {
            if (owner(seat) >= 0) {
                return 5;
            }
            State then = seated(t, seat);
            if (!then.allAllowed(t)) {
                return 1;
            }
            return then.joy(t) < joy(t) ? 6 : 0;
        }

        int whyRing(int a, int b, int c) {
            State then = passed(a, b, c);
            if (!then.allAllowed(a, b, c)) {
                return 1;
            }
            return then.joy(a) < joy(a) || then.joy(b) < joy(b) || then.joy(c) < joy(c) ? 6 : 0;
        }

        /** Settles this state; answers how many swaps were done. */
        int settle() {
            int done = 0;
            while (done < 99) {
                State best = null;
                for (int a = 0; a < people.size(); a++) {
                    for (int b = 0; b < people.size(); b++) {
                        if (a != b && whySwap(a, b, 0) == 0) {
                            State then = passed(a, b);
                            if (then.sum() > (best == null ? this : best).sum()) {
                                best = then;
                            }
                        }
                    }
                }
                if (best == null) {
                    break;
                }
                people = best.people;
                done++;
            }
            return done;
        }

        List<Integer> ranking() {
            List<Integer> all = new ArrayList<>();
            for (int t = 0; t < people.size(); t++) {
                all.add(t);
            }
            all.sort(Comparator.comparingInt((Integer t) -> -joy(t)).thenComparingInt(t -> t));
            return all;
        }
    }

    private State now = new State();
    private List<Integer> tape = new ArrayList<>();
    private int error = NOT_FOUND;
    private final State[] slots = new State[2];
    private List<State> past = new ArrayList<>();

    private boolean person(int t) {
        return t >= 0 && t < now.people.size();
    }

    private boolean seat(int s) {
        return s >= 0 && s < 4 * now.rows;
    }

    private static boolean in(int n, int low, int high) {
        return n >= low && n <= high;
    }

    private void operation() {
        past.add(now.copy());
        if (past.size() > 8) {
            past.remove(0);
        }
    }

    int append(int a, int b, int c, int d, int e) {
        if (tape.size() + 20 > 1000) {
            return INVALID;
        }
        for (int word : new int[] {a, b, c, d, e}) {
            for (byte x : java.nio.ByteBuffer.allocate(4).putInt(word).array()) {
                tape.add(x & 255);
            }
        }
        return tape.size();
    }

    int truncate(int n) {
        if (n < 0 || n > tape.size()) {
            return INVALID;
        }
        tape = new ArrayList<>(tape.subList(0, tape.size() - n));
        return tape.size();
    }

    String tapeText() {
        StringBuilder text = new StringBuilder();
        for (int b : tape) {
            text.append((char) b);
        }
        return text.toString();
    }

    int load() {
        ModelSetup setup = new ModelSetup(tapeText());
        tape.clear();
        error = setup.error;
        if (error != NOT_FOUND) {
            return INVALID;
        }
        State s = new State();
        s.rows = setup.rows;
        s.first = setup.first;
        for (String[] parts : setup.travellers) {
            Person p = new Person();
            p.seat = Integer.parseInt(parts[0]);
            p.name = parts[1];
            p.ticket = Integer.parseInt(parts[2]);
            p.family = Integer.parseInt(parts[3]);
            p.window = Integer.parseInt(parts[4]);
            p.ahead = Integer.parseInt(parts[5]);
            p.row = Integer.parseInt(parts[6]);
            p.pulls = Integer.parseInt(parts[7]);
            p.sweets = Integer.parseInt(parts[8]);
            p.stop = Integer.parseInt(parts[9]);
            s.people.add(p);
        }
        now = s;
        slots[0] = null;
        slots[1] = null;
        past.clear();
        return now.people.size();
    }

    int errorPosition() {
        return error;
    }

    int come(int seat, int ticket, int family, int sweets, int stop) {
        String name = tapeText();
        if (!seat(seat) || !in(ticket, 0, 1) || !in(family, 0, 9) || !in(sweets, 0, 99) || !in(stop, 1, 99)
                || !name.matches("[a-z]{1,5}") || KEYWORDS.contains(name)) {
            return INVALID;
        }
        if (now.people.size() == 20) {
            return FULL;
        }
        if (now.owner(seat) >= 0 || !now.allowed(ticket, seat)) {
            return BARRED;
        }
        operation();
        Person p = new Person();
        p.name = name;
        p.seat = seat;
        p.ticket = ticket;
        p.family = family;
        p.sweets = sweets;
        p.stop = stop;
        now.people.add(p);
        now.note(0, now.people.size() - 1, seat);
        tape.clear();
        return now.people.size() - 1;
    }

    int set(int t, int what, int value) {
        int[] low = {-9, -9, 0, 0, 0};
        int[] high = {9, 9, now.rows - 1, 3, 1};
        if (!person(t) || !in(what, 0, 4) || !in(value, low[what], high[what])) {
            return INVALID;
        }
        Person p = now.people.get(t);
        int former = new int[] {p.window, p.ahead, p.row, p.pulls, p.ticket}[what];
        if (former == value) {
            return NOT_FOUND;
        }
        if (what == 4 && !now.allowed(value, p.seat)) {
            return BARRED;
        }
        operation();
        p.window = what == 0 ? value : p.window;
        p.ahead = what == 1 ? value : p.ahead;
        p.row = what == 2 ? value : p.row;
        p.pulls = what == 3 ? value : p.pulls;
        p.ticket = what == 4 ? value : p.ticket;
        now.note(6, 10 * t + what, former);
        return what <= 1 ? former + 9 : former;
    }

    int first(int first) {
        if (!in(first, 0, now.rows)) {
            return INVALID;
        }
        int former = now.first;
        if (first == former) {
            return NOT_FOUND;
        }
        if (ifFirst(first) != 0) {
            return BARRED;
        }
        operation();
        now.first = first;
        now.note(7, 0, former);
        return former;
    }

    int swap(int a, int b, int sweets) {
        int why = why(a, b, sweets);
        if (why != 0) {
            return why == INVALID ? INVALID : -10 - why;
        }
        operation();
        State then = now.passed(a, b);
        int rise = then.joy(a) + then.joy(b) - now.joy(a) - now.joy(b);
        now = then;
        now.people.get(a).sweets -= sweets;
        now.people.get(b).sweets += sweets;
        now.counts[0]++;
        now.counts[3] += sweets;
        now.note(1, 100 * a + b, sweets);
        return rise + 100;
    }

    int move(int t, int seat) {
        int why = whyMove(t, seat);
        if (why != 0) {
            return why == INVALID ? INVALID : -10 - why;
        }
        operation();
        State then = now.seated(t, seat);
        int rise = then.joy(t) - now.joy(t);
        then.counts[1]++;
        then.note(2, t, now.people.get(t).seat);
        now = then;
        return rise;
    }

    int ring(int a, int b, int c) {
        if (!person(a) || !person(b) || !person(c) || a == b || a == c || b == c) {
            return INVALID;
        }
        int why = now.whyRing(a, b, c);
        if (why != 0) {
            return -10 - why;
        }
        operation();
        State then = now.passed(a, b, c);
        int rise = then.joy(a) + then.joy(b) + then.joy(c) - now.joy(a) - now.joy(b) - now.joy(c);
        then.counts[2]++;
        then.note(3, 10000 * a + 100 * b + c, 0);
        now = then;
        return rise;
    }

    int settle() {
        State then = now.copy();
        int done = then.settle();
        if (done == 0) {
            return NOT_FOUND;
        }
        operation();
        then.counts[0] += done;
        then.note(5, done, then.sum() - now.sum());
        now = then;
        return done;
    }

    int station(int many) {
        if (!in(many, 1, 50)) {
            return INVALID;
        }
        if (now.time + many > 999) {
            return FULL;
        }
        operation();
        int off = 0;
        for (int i = 0; i < many; i++) {
            now.time++;
            for (int t = now.people.size() - 1; t >= 0; t--) {
                if (now.people.get(t).stop == now.time) {
                    now.note(4, t, now.people.get(t).seat);
                    now.people.remove(t);
                    now.counts[4]++;
                    off++;
                }
            }
        }
        return off;
    }

    int keep(int slot) {
        if (!in(slot, 0, 1)) {
            return INVALID;
        }
        slots[slot] = now.copy();
        return now.people.size();
    }

    int restore(int slot) {
        if (!in(slot, 0, 1)) {
            return INVALID;
        }
        if (slots[slot] == null) {
            return NOT_FOUND;
        }
        operation();
        now = slots[slot].copy();
        return now.people.size();
    }

    int undo() {
        if (past.isEmpty()) {
            return INVALID;
        }
        now = past.remove(past.size() - 1);
        return past.size();
    }

    int value(int what) {
        int sweets = 0;
        Set<Integer> families = new TreeSet<>();
        for (Person p : now.people) {
            sweets += p.sweets;
            families.add(p.family);
        }
        families.remove(0);
        int[] all = {now.rows, now.first, now.time, now.people.size(), 4 * now.rows - now.people.size(),
            now.sum() + 10000, now.grumble(), sweets, now.counts[0], now.counts[1], now.counts[2], now.counts[3],
            now.counts[4], now.rows / 2 + now.rows % 2, families.size(), now.log.size(), past.size()};
        return in(what, 0, 16) ? all[what] : INVALID;
    }

    int of(int t, int what) {
        if (!person(t) || !in(what, 0, 11)) {
            return INVALID;
        }
        Person p = now.people.get(t);
        return new int[] {p.seat, p.ticket, p.family, p.window + 9, p.ahead + 9, p.row, p.pulls, p.sweets, p.stop,
            now.joy(t) + 100, now.kin(t), now.ranking().indexOf(t)}[what];
    }

    int letter(int t, int i) {
        if (!person(t) || i < 0) {
            return INVALID;
        }
        String name = now.people.get(t).name;
        return i < name.length() ? name.charAt(i) - 'a' + 1 : NOT_FOUND;
    }

    int at(int seat) {
        return seat(seat) ? now.owner(seat) : INVALID;
    }

    int table(int table, int what) {
        if (!in(table, 0, value(13) - 1) || !in(what, 0, 3)) {
            return INVALID;
        }
        int many = 0, grumble = 0, sum = 0;
        int[] members = new int[10];
        for (int t = 0; t < now.people.size(); t++) {
            Person p = now.people.get(t);
            int row = p.seat / 4;
            if (row == 2 * table || row == 2 * table + 1) {
                many++;
                grumble += now.joy(t) < 0 ? 1 : 0;
                sum += now.joy(t);
                members[p.family]++;
            }
        }
        int best = 0;
        for (int f = 9; f >= 1; f--) {
            if (members[f] > 0 && (best == 0 || members[f] >= members[best])) {
                best = f;
            }
        }
        return new int[] {many, grumble, sum + 1000, best}[what];
    }

    int family(int family, int what) {
        if (!in(family, 1, 9) || !in(what, 0, 2)) {
            return INVALID;
        }
        int many = 0, sum = 0;
        Set<Integer> tables = new TreeSet<>();
        for (int t = 0; t < now.people.size(); t++) {
            if (now.people.get(t).family == family) {
                many++;
                sum += now.joy(t);
                tables.add(now.people.get(t).seat / 4 / 2);
            }
        }
        return new int[] {many, tables.size(), sum + 1000}[what];
    }

    int ranked(int place) {
        if (place < 0) {
            return INVALID;
        }
        return place < now.people.size() ? now.ranking().get(place) : NOT_FOUND;
    }

    int why(int a, int b, int sweets) {
        return person(a) && person(b) && a != b && in(sweets, 0, 9) ? now.whySwap(a, b, sweets) : INVALID;
    }

    int whyMove(int t, int seat) {
        return person(t) && seat(seat) ? now.whyMove(t, seat) : INVALID;
    }

    int joyAt(int t, int seat) {
        return person(t) && seat(seat) ? now.seated(t, seat).joy(t) + 100 : INVALID;
    }

    int ifSwapped(int a, int b, int what) {
        if (!person(a) || !person(b) || a == b || !in(what, 0, 2)) {
            return INVALID;
        }
        State then = now.passed(a, b);
        return new int[] {then.joy(a) - now.joy(a) + 100, then.joy(b) - now.joy(b) + 100, then.sum() + 1000}[what];
    }

    int leastPrice(int a, int b) {
        if (!person(a) || !person(b) || a == b) {
            return INVALID;
        }
        for (int sweets = 0; sweets <= 9; sweets++) {
            if (why(a, b, sweets) == 0) {
                return sweets;
            }
        }
        return NOT_FOUND;
    }

    int bestSeat(int t) {
        if (!person(t)) {
            return INVALID;
        }
        int best = NOT_FOUND;
        for (int seat = 4 * now.rows - 1; seat >= 0; seat--) {
            if (whyMove(t, seat) == 0 && (best < 0 || joyAt(t, seat) >= joyAt(t, best))) {
                best = seat;
            }
        }
        return best;
    }

    int partner(int a) {
        if (!person(a)) {
            return INVALID;
        }
        int best = NOT_FOUND;
        for (int b = now.people.size() - 1; b >= 0; b--) {
            if (b != a && why(a, b, 0) == 0 && ifSwapped(a, b, 0) >= 101
                    && (best < 0 || ifSwapped(a, b, 0) >= ifSwapped(a, best, 0))) {
                best = b;
            }
        }
        return best;
    }

    int rings() {
        int many = 0;
        int n = now.people.size();
        for (int a = 0; a < n; a++) {
            for (int b = 0; b < n; b++) {
                for (int c = 0; c < n; c++) {
                    if (a < b && a < c && b != c && now.whyRing(a, b, c) == 0) {
                        State then = now.passed(a, b, c);
                        if (then.joy(a) + then.joy(b) + then.joy(c) > now.joy(a) + now.joy(b) + now.joy(c)) {
                            many++;
                        }
                    }
                }
            }
        }
        return many;
    }

    int ifSettled(int what) {
        if (!in(what, 0, 2)) {
            return INVALID;
        }
        State then = now.copy();
        int done = then.settle();
        return new int[] {done, then.sum() + 10000, then.grumble()}[what];
    }

    int ifFirst(int first) {
        if (!in(first, 0, now.rows)) {
            return INVALID;
        }
        State then = now.copy();
        then.first = first;
        int barred = 0;
        for (int t = 0; t < then.people.size(); t++) {
            barred += then.allAllowed(t) ? 0 : 1;
        }
        return barred;
    }

    int log(int i, int what) {
        if (i < 0 || !in(what, 0, 2)) {
            return INVALID;
        }
        return i < now.log.size() ? now.log.get(i)[what] : NOT_FOUND;
    }

    float full() {
        return (float) now.people.size() / (float) (4 * now.rows);
    }

    double meanJoy() {
        return now.people.isEmpty() ? 0 : (double) now.sum() / (double) now.people.size();
    }

    String plan() {
        StringBuilder text = new StringBuilder();
        for (int row = 0; row < now.rows; row++) {
            text.append(row < now.first ? "=" : "-").append(row % 2 == 0 ? "<" : ">");
            for (int seat = 4 * row; seat < 4 * row + 4; seat++) {
                int t = now.owner(seat);
                String letter = t < 0 ? "." : now.people.get(t).name.substring(0, 1);
                text.append(t >= 0 && now.joy(t) < 0 ? letter.toUpperCase() : letter);
            }
            text.append("\n");
        }
        return text.toString();
    }

    String setup() {
        StringBuilder text = new StringBuilder("train " + now.rows + " first " + now.first + ";");
        for (Person p : now.people) {
            text.append("seat " + p.seat + " " + p.name);
            text.append(p.ticket == 0 ? "" : " ticket");
            text.append(p.family == 0 ? "" : " family " + p.family);
            text.append(p.window == 0 ? "" : String.format(" window %+d", p.window));
            text.append(p.ahead == 0 ? "" : String.format(" ahead %+d", p.ahead));
            text.append(p.row == 0 && p.pulls == 0 ? "" : " row " + p.row + " " + p.pulls);
            text.append(p.sweets == 0 ? "" : " sweets " + p.sweets);
            text.append(p.stop == 99 ? "" : " stop " + p.stop);
            text.append(";");
        }
        return text.toString();
    }

    private static int byteOf(String text, int i) {
        if (i < 0) {
            return INVALID;
        }
        return i < text.length() ? text.charAt(i) : NOT_FOUND;
    }

    int planLength() {
        return plan().length();
    }

    int planByte(int i) {
        return byteOf(plan(), i);
    }

    int setupLength() {
        return setup().length();
    }

    int setupByte(int i) {
        return byteOf(setup(), i);
    }
}
