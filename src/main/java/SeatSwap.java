/** A train of strangers who exchange seats; the project's document promises what each call does. */
public final class SeatSwap {
    public static final int INVALID = -1;
    public static final int NOT_FOUND = -2;
    public static final int FULL = -3;
    public static final int BARRED = -4;

    private static final int MOST_TRAVELLERS = 20;
    private static final int MOST_FAMILY = 9;
    private static final int MOST_SWEETS = 99;
    private static final int MOST_PAID = 9;
    private static final int MOST_STOP = 99;
    private static final int MOST_STATIONS = 50;
    private static final int MOST_TIME = 999;
    private static final int MOST_LIKE = 9;
    private static final int MOST_PULLS = 3;
    private static final int MOST_SETTLED = 99;
    private static final int SLOTS = 2;

    private final Tape tape;
    private final SetupReader reader;
    private final SetupWriter writer;
    private final Train train;
    /** What a load or a settling brings is made here first, as it may not count. */
    private final Train draft;
    private final Traveller guest;
    private final Train[] slots;
    private final boolean[] filled;
    private final Past past;
    private int errorAt;

    public SeatSwap() {
        reader = new SetupReader();
        tape = reader.tape;
        writer = new SetupWriter();
        train = new Train();
        draft = new Train();
        guest = new Traveller();
        slots = new Train[SLOTS];
        for (int slot = 0; slot < SLOTS; slot++) {
            slots[slot] = new Train();
        }
        filled = new boolean[SLOTS];
        past = new Past();
        errorAt = NOT_FOUND;
    }

    // ---- texts

    public int append(int a, int b, int c, int d, int e) {
        if (!tape.hasRoom()) {
            return INVALID;
        }
        tape.putFour(a);
        tape.putFour(b);
        tape.putFour(c);
        tape.putFour(d);
        tape.putFour(e);
        return tape.length;
    }

    public int truncate(int n) {
        if (!isIn(n, 0, tape.length)) {
            return INVALID;
        }
        tape.length -= n;
        return tape.length;
    }

    public int load() {
        boolean right = reader.readSetup(draft);
        errorAt = right ? NOT_FOUND : reader.start;
        tape.length = 0;
        if (!right) {
            return INVALID;
        }
        train.copyFrom(draft);
        for (int slot = 0; slot < SLOTS; slot++) {
            filled[slot] = false;
        }
        past.forget();
        return train.count;
    }

    public int errorPosition() {
        return errorAt;
    }

    // ---- travellers

    public int come(int seat, int ticket, int family, int sweets, int stop) {
        if (!train.isSeat(seat) || !isIn(ticket, 0, 1) || !isIn(family, 0, MOST_FAMILY)
                || !isIn(sweets, 0, MOST_SWEETS) || !isIn(stop, 1, MOST_STOP)
                || !reader.tapeIsName()) {
            return INVALID;
        }
        if (train.count >= MOST_TRAVELLERS) {
            return FULL;
        }
        if (!train.isFree(seat) || !train.allows(ticket, seat)) {
            return BARRED;
        }
        past.remember(train);
        guest.clear();
        guest.name = reader.nameOnTape();
        guest.seat = seat;
        guest.ticket = ticket;
        guest.family = family;
        guest.sweets = sweets;
        guest.stop = stop;
        int number = train.count;
        train.admit(guest);
        train.log.add(Log.CAME, number, seat);
        tape.length = 0;
        return number;
    }

    public int set(int traveller, int what, int value) {
        if (!train.isTraveller(traveller) || !train.isInRange(what, value)) {
            return INVALID;
        }
        Traveller who = train.traveller(traveller);
        int former = who.settable(what);
        if (former == value) {
            return NOT_FOUND;
        }
        if (what == Traveller.TICKET && !train.allows(value, who.seat)) {
            return BARRED;
        }
        past.remember(train);
        who.change(what, value);
        train.log.add(Log.WAS_SET, 10 * traveller + what, former);
        boolean signed = what == Traveller.WINDOW || what == Traveller.AHEAD;
        return signed ? former + MOST_LIKE : former;
    }

    public int first(int first) {
        if (!isIn(first, 0, train.rows)) {
            return INVALID;
        }
        int former = train.first;
        if (first == former) {
            return NOT_FOUND;
        }
        if (train.barredBy(first) > 0) {
            return BARRED;
        }
        past.remember(train);
        train.first = first;
        train.log.add(Log.FIRST_SET, 0, former);
        return former;
    }

    // ---- exchanges

    public int swap(int asker, int other, int sweets) {
        if (!arePair(asker, other) || !isIn(sweets, 0, MOST_PAID)) {
            return INVALID;
        }
        int reason = train.swapReason(asker, other, sweets);
        if (reason != 0) {
            return refusal(reason);
        }
        int rise = train.riseBySwap(asker, other) + train.riseBySwap(other, asker);
        past.remember(train);
        train.doSwap(asker, other, sweets);
        return rise + 100;
    }

    public int move(int traveller, int seat) {
        if (!train.isTraveller(traveller) || !train.isSeat(seat)) {
            return INVALID;
        }
        int reason = train.moveReason(traveller, seat);
        if (reason != 0) {
            return refusal(reason);
        }
        int rise = train.joyIn(traveller, seat) - train.joyOf(traveller);
        past.remember(train);
        train.doMove(traveller, seat);
        return rise;
    }

    public int ring(int one, int two, int three) {
        if (!arePair(one, two) || !arePair(two, three) || one == three) {
            return INVALID;
        }
        int reason = train.ringReason(one, two, three);
        if (reason != 0) {
            return refusal(reason);
        }
        int rise = train.riseByRing(one, two, three);
        past.remember(train);
        train.doRing(one, two, three);
        return rise;
    }

    public int settle() {
        int done = settleDraft();
        if (done == 0) {
            return NOT_FOUND;
        }
        int rise = draft.sumOfJoys() - train.sumOfJoys();
        past.remember(train);
        train.copyFrom(draft);
        train.swaps += done;
        train.log.add(Log.SETTLED, done, rise);
        return done;
    }

    // ---- stations

    public int station(int many) {
        if (!isIn(many, 1, MOST_STATIONS)) {
            return INVALID;
        }
        if (train.time + many > MOST_TIME) {
            return FULL;
        }
        past.remember(train);
        int before = train.count;
        for (int i = 0; i < many; i++) {
            train.goOn();
        }
        return before - train.count;
    }

    // ---- slots and undo

    public int keep(int slot) {
        if (!isIn(slot, 0, SLOTS - 1)) {
            return INVALID;
        }
        slots[slot].copyFrom(train);
        filled[slot] = true;
        return train.count;
    }

    public int restore(int slot) {
        if (!isIn(slot, 0, SLOTS - 1)) {
            return INVALID;
        }
        if (!filled[slot]) {
            return NOT_FOUND;
        }
        past.remember(train);
        train.copyFrom(slots[slot]);
        return train.count;
    }

    public int undo() {
        if (past.count == 0) {
            return INVALID;
        }
        past.bringBack(train);
        return past.count;
    }

    // ---- what there is

    public int value(int what) {
        switch (what) {
            case 0: return train.rows;
            case 1: return train.first;
            case 2: return train.time;
            case 3: return train.count;
            case 4: return train.seats() - train.count;
            case 5: return train.sumOfJoys() + 10000;
            case 6: return train.grumblers();
            case 7: return train.sumOfSweets();
            case 8: return train.swaps;
            case 9: return train.moves;
            case 10: return train.rings;
            case 11: return train.paid;
            case 12: return train.gone;
            case 13: return train.tables();
            case 14: return train.families();
            case 15: return train.log.size;
            case 16: return past.count;
            default: return INVALID;
        }
    }

    public int of(int traveller, int what) {
        if (!train.isTraveller(traveller)) {
            return INVALID;
        }
        Traveller who = train.traveller(traveller);
        switch (what) {
            case 0: return who.seat;
            case 1: return who.ticket;
            case 2: return who.family;
            case 3: return who.window + MOST_LIKE;
            case 4: return who.ahead + MOST_LIKE;
            case 5: return who.row;
            case 6: return who.pulls;
            case 7: return who.sweets;
            case 8: return who.stop;
            case 9: return train.joyOf(traveller) + 100;
            case 10: return train.relativesAt(who, who.seat / Train.SEATS_AT_TABLE);
            case 11: return train.placeOf(traveller);
            default: return INVALID;
        }
    }

    public int letter(int traveller, int i) {
        if (!train.isTraveller(traveller) || i < 0) {
            return INVALID;
        }
        int letter = train.traveller(traveller).letterAt(i);
        return letter == 0 ? NOT_FOUND : letter;
    }

    public int at(int seat) {
        return train.isSeat(seat) ? train.whoHas(seat) : INVALID;
    }

    public int table(int table, int what) {
        if (!isIn(table, 0, train.tables() - 1)) {
            return INVALID;
        }
        switch (what) {
            case 0: return train.travellersAt(table);
            case 1: return train.grumblersAt(table);
            case 2: return train.sumOfJoysAt(table) + 1000;
            case 3: return train.greatestFamilyAt(table);
            default: return INVALID;
        }
    }

    public int family(int family, int what) {
        if (!isIn(family, 1, MOST_FAMILY)) {
            return INVALID;
        }
        switch (what) {
            case 0: return train.membersOf(family);
            case 1: return train.tablesOf(family);
            case 2: return train.sumOfJoysOf(family) + 1000;
            default: return INVALID;
        }
    }

    public int ranked(int place) {
        return place < 0 ? INVALID : train.whoIsAtPlace(place);
    }

    // ---- reasons and what would be

    public int why(int asker, int other, int sweets) {
        if (!arePair(asker, other) || !isIn(sweets, 0, MOST_PAID)) {
            return INVALID;
        }
        return train.swapReason(asker, other, sweets);
    }

    public int whyMove(int traveller, int seat) {
        if (!train.isTraveller(traveller) || !train.isSeat(seat)) {
            return INVALID;
        }
        return train.moveReason(traveller, seat);
    }

    public int joyAt(int traveller, int seat) {
        if (!train.isTraveller(traveller) || !train.isSeat(seat)) {
            return INVALID;
        }
        return train.joyIn(traveller, seat) + 100;
    }

    public int ifSwapped(int asker, int other, int what) {
        if (!arePair(asker, other)) {
            return INVALID;
        }
        switch (what) {
            case 0: return train.riseBySwap(asker, other) + 100;
            case 1: return train.riseBySwap(other, asker) + 100;
            case 2: return train.sumIfSwapped(asker, other) + 1000;
            default: return INVALID;
        }
    }

    public int leastPrice(int asker, int other) {
        if (!arePair(asker, other)) {
            return INVALID;
        }
        for (int sweets = 0; sweets <= MOST_PAID; sweets++) {
            if (train.swapReason(asker, other, sweets) == 0) {
                return sweets;
            }
        }
        return NOT_FOUND;
    }

    public int bestSeat(int traveller) {
        return train.isTraveller(traveller) ? train.bestSeatFor(traveller) : INVALID;
    }

    public int partner(int asker) {
        return train.isTraveller(asker) ? train.partnerFor(asker) : INVALID;
    }

    public int rings() {
        return train.risingRings();
    }

    public int ifSettled(int what) {
        if (!isIn(what, 0, 2)) {
            return INVALID;
        }
        int done = settleDraft();
        switch (what) {
            case 0: return done;
            case 1: return draft.sumOfJoys() + 10000;
            default: return draft.grumblers();
        }
    }

    public int ifFirst(int first) {
        return isIn(first, 0, train.rows) ? train.barredBy(first) : INVALID;
    }

    // ---- log, rates, texts

    public int log(int i, int what) {
        if (i < 0 || !isIn(what, 0, Log.PARTS - 1)) {
            return INVALID;
        }
        return train.log.part(i, what);
    }

    public float full() {
        int seats = train.seats();
        return seats > 0 ? (float) train.count / (float) seats : 0.0f;
    }

    public double meanJoy() {
        return train.count > 0 ? (double) train.sumOfJoys() / (double) train.count : 0.0;
    }

    public int planLength() {
        return train.rows * Train.PLAN_LINE;
    }

    public int planByte(int i) {
        if (i < 0) {
            return INVALID;
        }
        return i < planLength() ? train.planSign(i / Train.PLAN_LINE, i % Train.PLAN_LINE) : NOT_FOUND;
    }

    public int setupLength() {
        writer.write(train, NOT_FOUND);
        return writer.length;
    }

    public int setupByte(int i) {
        if (i < 0) {
            return INVALID;
        }
        writer.write(train, i);
        return writer.found;
    }

    // ---- what several calls need

    private static boolean isIn(int number, int least, int most) {
        return number >= least && number <= most;
    }

    private static int refusal(int reason) {
        return -10 - reason;
    }

    private boolean arePair(int one, int two) {
        return train.isTraveller(one) && train.isTraveller(two) && one != two;
    }

    private int settleDraft() {
        draft.copyFrom(train);
        for (int done = 0; done < MOST_SETTLED; done++) {
            if (!draft.settleOnce()) {
                return done;
            }
        }
        return MOST_SETTLED;
    }

    /** One traveller; what it is set to is tested by the train. */
    private static final class Traveller {
        static final int WINDOW = 0;
        static final int AHEAD = 1;
        static final int ROW = 2;
        static final int PULLS = 3;
        static final int TICKET = 4;
        static final int LONGEST_NAME = 5;
        static final int LETTER_BITS = 5;

        /** Letter i, 1 for a to 26 for z, in the five bits from 5 i on; a number needs no array. */
        int name;
        int seat;
        int ticket;
        int family;
        int window;
        int ahead;
        int row;
        int pulls;
        int sweets;
        int stop;

        void clear() {
            name = 0;
            seat = 0;
            ticket = 0;
            family = 0;
            window = 0;
            ahead = 0;
            row = 0;
            pulls = 0;
            sweets = 0;
            stop = MOST_STOP;
        }

        void copyFrom(Traveller other) {
            name = other.name;
            seat = other.seat;
            ticket = other.ticket;
            family = other.family;
            window = other.window;
            ahead = other.ahead;
            row = other.row;
            pulls = other.pulls;
            sweets = other.sweets;
            stop = other.stop;
        }

        int settable(int what) {
            switch (what) {
                case WINDOW: return window;
                case AHEAD: return ahead;
                case ROW: return row;
                case PULLS: return pulls;
                default: return ticket;
            }
        }

        void change(int what, int number) {
            switch (what) {
                case WINDOW: window = number; break;
                case AHEAD: ahead = number; break;
                case ROW: row = number; break;
                case PULLS: pulls = number; break;
                default: ticket = number; break;
            }
        }

        /** Answers 0 behind the name's end. */
        int letterAt(int i) {
            return i < LONGEST_NAME ? name >> LETTER_BITS * i & 31 : 0;
        }
    }

    /** All that operations change, and the rows. */
    private static final class Train {
        static final int LEAST_ROWS = 2;
        static final int MOST_ROWS = 10;
        static final int SEATS_IN_ROW = 4;
        static final int SEATS_AT_TABLE = 8;
        static final int MOST_TABLES = 5;
        /** None (0), and 1 to 9. */
        static final int FAMILIES = 10;
        static final int PLAN_LINE = 7;

        final Traveller[] travellers;
        /** Is found under each number that no traveller has: so a wrong number can do no harm. */
        final Traveller nobody;
        /** How many of each family are at each table: so a joy is told without asking all the others. */
        final int[] members;
        final Log log;
        int rows;
        int first;
        int time;
        int count;
        int swaps;
        int moves;
        int rings;
        int paid;
        int gone;

        Train() {
            travellers = new Traveller[MOST_TRAVELLERS];
            for (int t = 0; t < MOST_TRAVELLERS; t++) {
                travellers[t] = new Traveller();
            }
            nobody = new Traveller();
            members = new int[MOST_TABLES * FAMILIES];
            log = new Log();
            rows = 4;
            first = 1;
        }

        void clear() {
            for (int i = 0; i < members.length; i++) {
                members[i] = 0;
            }
            log.clear();
            first = 0;
            time = 0;
            count = 0;
            swaps = 0;
            moves = 0;
            rings = 0;
            paid = 0;
            gone = 0;
        }

        void copyFrom(Train other) {
            for (int t = 0; t < other.count; t++) {
                traveller(t).copyFrom(other.traveller(t));
            }
            for (int i = 0; i < members.length && i < other.members.length; i++) {
                members[i] = other.members[i];
            }
            log.copyFrom(other.log);
            rows = other.rows;
            first = other.first;
            time = other.time;
            count = other.count;
            swaps = other.swaps;
            moves = other.moves;
            rings = other.rings;
            paid = other.paid;
            gone = other.gone;
        }

        // ---- seats

        Traveller traveller(int t) {
            return t >= 0 && t < travellers.length ? travellers[t] : nobody;
        }

        int seats() {
            return rows * SEATS_IN_ROW;
        }

        int tables() {
            return (rows + 1) / 2;
        }

        boolean isSeat(int seat) {
            return isIn(seat, 0, seats() - 1);
        }

        boolean isTraveller(int t) {
            return isIn(t, 0, count - 1);
        }

        boolean isInRange(int what, int number) {
            switch (what) {
                case Traveller.WINDOW:
                case Traveller.AHEAD: return isIn(number, -MOST_LIKE, MOST_LIKE);
                case Traveller.ROW: return isIn(number, 0, rows - 1);
                case Traveller.PULLS: return isIn(number, 0, MOST_PULLS);
                case Traveller.TICKET: return isIn(number, 0, 1);
                default: return false;
            }
        }

        int whoHas(int seat) {
            for (int t = 0; t < count; t++) {
                if (traveller(t).seat == seat) {
                    return t;
                }
            }
            return NOT_FOUND;
        }

        boolean isFree(int seat) {
            return whoHas(seat) == NOT_FOUND;
        }

        boolean allows(int ticket, int seat) {
            return ticket == 1 || seat / SEATS_IN_ROW >= first;
        }

        boolean maySit(int t, int seat) {
            return allows(traveller(t).ticket, seat);
        }

        int barredBy(int otherFirst) {
            int barred = 0;
            for (int t = 0; t < count; t++) {
                Traveller who = traveller(t);
                if (who.ticket == 0 && who.seat / SEATS_IN_ROW < otherFirst) {
                    barred++;
                }
            }
            return barred;
        }

        private int membersAt(int table, int family) {
            int index = table * FAMILIES + family;
            return index >= 0 && index < members.length ? members[index] : 0;
        }

        private void countAtTable(Traveller who, int by) {
            int index = who.seat / SEATS_AT_TABLE * FAMILIES + who.family;
            if (index >= 0 && index < members.length) {
                members[index] += by;
            }
        }

        void admit(Traveller newcomer) {
            if (count >= travellers.length) {
                return;
            }
            traveller(count).copyFrom(newcomer);
            countAtTable(newcomer, 1);
            count++;
        }

        private void letOff(int t) {
            Traveller leaver = traveller(t);
            log.add(Log.GOT_OFF, t, leaver.seat);
            countAtTable(leaver, -1);
            count--;
            for (int above = t; above < count; above++) {
                traveller(above).copyFrom(traveller(above + 1));
            }
            gone++;
        }

        void goOn() {
            time++;
            for (int t = count - 1; t >= 0; t--) {
                if (traveller(t).stop == time) {
                    letOff(t);
                }
            }
        }

        // ---- joys

        int joyIn(int t, int seat) {
            Traveller who = traveller(t);
            int row = seat / SEATS_IN_ROW;
            int column = seat % SEATS_IN_ROW;
            int joy = 4 * relativesAt(who, seat / SEATS_AT_TABLE) - who.pulls * Math.abs(row - who.row);
            if (column == 0 || column == SEATS_IN_ROW - 1) {
                joy += who.window;
            }
            if (looksForward(row)) {
                joy += who.ahead;
            }
            return joy;
        }

        int joyOf(int t) {
            return joyIn(t, traveller(t).seat);
        }

        int relativesAt(Traveller who, int table) {
            if (who.family == 0) {
                return 0;
            }
            int there = membersAt(table, who.family);
            return who.seat / SEATS_AT_TABLE == table ? there - 1 : there;
        }

        private static boolean looksForward(int row) {
            return row % 2 == 1;
        }

        int sumOfJoys() {
            int sum = 0;
            for (int t = 0; t < count; t++) {
                sum += joyOf(t);
            }
            return sum;
        }

        int grumblers() {
            int many = 0;
            for (int t = 0; t < count; t++) {
                if (joyOf(t) < 0) {
                    many++;
                }
            }
            return many;
        }

        int placeOf(int t) {
            int joy = joyOf(t);
            int place = 0;
            for (int other = 0; other < count; other++) {
                int otherJoy = joyOf(other);
                if (otherJoy > joy || otherJoy == joy && other < t) {
                    place++;
                }
            }
            return place;
        }

        int whoIsAtPlace(int place) {
            for (int t = 0; t < count; t++) {
                if (placeOf(t) == place) {
                    return t;
                }
            }
            return NOT_FOUND;
        }

        // ---- tables and families

        private boolean isAt(int t, int table) {
            return traveller(t).seat / SEATS_AT_TABLE == table;
        }

        int travellersAt(int table) {
            int many = 0;
            for (int t = 0; t < count; t++) {
                if (isAt(t, table)) {
                    many++;
                }
            }
            return many;
        }

        int grumblersAt(int table) {
            int many = 0;
            for (int t = 0; t < count; t++) {
                if (isAt(t, table) && joyOf(t) < 0) {
                    many++;
                }
            }
            return many;
        }

        int sumOfJoysAt(int table) {
            int sum = 0;
            for (int t = 0; t < count; t++) {
                if (isAt(t, table)) {
                    sum += joyOf(t);
                }
            }
            return sum;
        }

        int greatestFamilyAt(int table) {
            int greatest = 0;
            int most = 0;
            for (int family = 1; family <= MOST_FAMILY; family++) {
                int there = membersAt(table, family);
                if (there > most) {
                    most = there;
                    greatest = family;
                }
            }
            return greatest;
        }

        int membersOf(int family) {
            int many = 0;
            for (int table = 0; table < MOST_TABLES; table++) {
                many += membersAt(table, family);
            }
            return many;
        }

        int tablesOf(int family) {
            int many = 0;
            for (int table = 0; table < MOST_TABLES; table++) {
                if (membersAt(table, family) > 0) {
                    many++;
                }
            }
            return many;
        }

        int sumOfJoysOf(int family) {
            int sum = 0;
            for (int t = 0; t < count; t++) {
                if (traveller(t).family == family) {
                    sum += joyOf(t);
                }
            }
            return sum;
        }

        int families() {
            int many = 0;
            for (int family = 1; family <= MOST_FAMILY; family++) {
                if (membersOf(family) > 0) {
                    many++;
                }
            }
            return many;
        }

        int sumOfSweets() {
            int sum = 0;
            for (int t = 0; t < count; t++) {
                sum += traveller(t).sweets;
            }
            return sum;
        }

        // ---- exchanges

        private void sitDown(int t, int seat) {
            Traveller who = traveller(t);
            countAtTable(who, -1);
            who.seat = seat;
            countAtTable(who, 1);
        }

        private void exchangeSeats(int one, int two) {
            int seat = traveller(one).seat;
            sitDown(one, traveller(two).seat);
            sitDown(two, seat);
        }

        private void passSeats(int one, int two, int three) {
            int seat = traveller(one).seat;
            sitDown(one, traveller(two).seat);
            sitDown(two, traveller(three).seat);
            sitDown(three, seat);
        }

        int riseBySwap(int who, int other) {
            int before = joyOf(who);
            exchangeSeats(who, other);
            int rise = joyOf(who) - before;
            exchangeSeats(who, other);
            return rise;
        }

        int sumIfSwapped(int asker, int other) {
            exchangeSeats(asker, other);
            int sum = sumOfJoys();
            exchangeSeats(asker, other);
            return sum;
        }

        int swapReason(int asker, int other, int sweets) {
            if (!maySit(asker, traveller(other).seat) || !maySit(other, traveller(asker).seat)) {
                return 1;
            }
            if (traveller(asker).sweets < sweets) {
                return 2;
            }
            int joyOfAsker = joyOf(asker);
            int joyOfOther = joyOf(other);
            exchangeSeats(asker, other);
            int riseOfAsker = joyOf(asker) - joyOfAsker;
            int riseOfOther = joyOf(other) - joyOfOther;
            exchangeSeats(asker, other);
            if (riseOfAsker < sweets) {
                return 3;
            }
            return riseOfOther < -sweets ? 4 : 0;
        }

        void doSwap(int asker, int other, int sweets) {
            exchangeSeats(asker, other);
            traveller(asker).sweets -= sweets;
            traveller(other).sweets += sweets;
            swaps++;
            paid += sweets;
            log.add(Log.SWAPPED, 100 * asker + other, sweets);
        }

        int moveReason(int t, int seat) {
            if (!isFree(seat)) {
                return 5;
            }
            if (!maySit(t, seat)) {
                return 1;
            }
            return joyIn(t, seat) < joyOf(t) ? 6 : 0;
        }

        void doMove(int t, int seat) {
            int former = traveller(t).seat;
            sitDown(t, seat);
            moves++;
            log.add(Log.MOVED, t, former);
        }

        int ringReason(int one, int two, int three) {
            if (!maySit(one, traveller(two).seat) || !maySit(two, traveller(three).seat)
                    || !maySit(three, traveller(one).seat)) {
                return 1;
            }
            int joyOne = joyOf(one);
            int joyTwo = joyOf(two);
            int joyThree = joyOf(three);
            passSeats(one, two, three);
            boolean less = joyOf(one) < joyOne || joyOf(two) < joyTwo || joyOf(three) < joyThree;
            passSeats(three, two, one);
            return less ? 6 : 0;
        }

        int riseByRing(int one, int two, int three) {
            int before = joyOf(one) + joyOf(two) + joyOf(three);
            passSeats(one, two, three);
            int rise = joyOf(one) + joyOf(two) + joyOf(three) - before;
            passSeats(three, two, one);
            return rise;
        }

        void doRing(int one, int two, int three) {
            passSeats(one, two, three);
            rings++;
            log.add(Log.RANG, 10000 * one + 100 * two + three, 0);
        }

        int risingRings() {
            int many = 0;
            for (int one = 0; one < count; one++) {
                for (int two = one + 1; two < count; two++) {
                    for (int three = one + 1; three < count; three++) {
                        if (two != three && ringReason(one, two, three) == 0
                                && riseByRing(one, two, three) > 0) {
                            many++;
                        }
                    }
                }
            }
            return many;
        }

        int bestSeatFor(int t) {
            int best = NOT_FOUND;
            int bestJoy = 0;
            for (int seat = 0; seat < seats(); seat++) {
                if (moveReason(t, seat) == 0) {
                    int joy = joyIn(t, seat);
                    if (best == NOT_FOUND || joy > bestJoy) {
                        best = seat;
                        bestJoy = joy;
                    }
                }
            }
            return best;
        }

        int partnerFor(int asker) {
            int best = NOT_FOUND;
            int bestRise = 0;
            for (int other = 0; other < count; other++) {
                if (other != asker && swapReason(asker, other, 0) == 0) {
                    int rise = riseBySwap(asker, other);
                    if (rise > bestRise) {
                        best = other;
                        bestRise = rise;
                    }
                }
            }
            return best;
        }

        boolean settleOnce() {
            int greatest = sumOfJoys();
            int bestAsker = NOT_FOUND;
            int bestOther = NOT_FOUND;
            for (int asker = 0; asker < count; asker++) {
                // A swap for nothing is the same from both sides: the smaller one asks.
                for (int other = asker + 1; other < count; other++) {
                    if (swapReason(asker, other, 0) != 0) {
                        continue;
                    }
                    exchangeSeats(asker, other);
                    int sum = sumOfJoys();
                    exchangeSeats(asker, other);
                    if (sum > greatest) {
                        greatest = sum;
                        bestAsker = asker;
                        bestOther = other;
                    }
                }
            }
            if (bestAsker == NOT_FOUND) {
                return false;
            }
            exchangeSeats(bestAsker, bestOther);
            return true;
        }

        // ---- plan

        int planSign(int row, int place) {
            switch (place) {
                case 0: return row < first ? '=' : '-';
                case 1: return looksForward(row) ? '>' : '<';
                case PLAN_LINE - 1: return '\n';
                default: return seatSign(row * SEATS_IN_ROW + place - 2);
            }
        }

        private int seatSign(int seat) {
            int t = whoHas(seat);
            if (t == NOT_FOUND) {
                return '.';
            }
            return (joyOf(t) < 0 ? 'A' : 'a') + traveller(t).letterAt(0) - 1;
        }
    }

    /** The latest entries; when it is full, a new one takes the place of the oldest. */
    private static final class Log {
        static final int CAME = 0;
        static final int SWAPPED = 1;
        static final int MOVED = 2;
        static final int RANG = 3;
        static final int GOT_OFF = 4;
        static final int SETTLED = 5;
        static final int WAS_SET = 6;
        static final int FIRST_SET = 7;
        static final int PARTS = 3;
        static final int MOST_ENTRIES = 40;

        final int[] parts;
        int oldest;
        int size;

        Log() {
            parts = new int[PARTS * MOST_ENTRIES];
        }

        void clear() {
            oldest = 0;
            size = 0;
        }

        void copyFrom(Log other) {
            for (int i = 0; i < parts.length && i < other.parts.length; i++) {
                parts[i] = other.parts[i];
            }
            oldest = other.oldest;
            size = other.size;
        }

        private int indexOf(int i, int what) {
            return Math.floorMod(oldest + i, MOST_ENTRIES) * PARTS + what;
        }

        private void put(int index, int number) {
            if (index >= 0 && index < parts.length) {
                parts[index] = number;
            }
        }

        void add(int kind, int one, int two) {
            put(indexOf(size, 0), kind);
            put(indexOf(size, 1), one);
            put(indexOf(size, 2), two);
            if (size < MOST_ENTRIES) {
                size++;
            } else {
                oldest = (oldest + 1) % MOST_ENTRIES;
            }
        }

        int part(int i, int what) {
            if (i >= size) {
                return NOT_FOUND;
            }
            int index = indexOf(i, what);
            return index >= 0 && index < parts.length ? parts[index] : NOT_FOUND;
        }
    }

    /** The trains before the latest operations. */
    private static final class Past {
        static final int MOST_UNDONE = 8;

        final Train[] trains;
        int oldest;
        int count;

        Past() {
            trains = new Train[MOST_UNDONE];
            for (int i = 0; i < MOST_UNDONE; i++) {
                trains[i] = new Train();
            }
        }

        void forget() {
            count = 0;
        }

        private Train trainAt(int i) {
            return trains[Math.floorMod(oldest + i, MOST_UNDONE)];
        }

        void remember(Train train) {
            trainAt(count).copyFrom(train);
            if (count < MOST_UNDONE) {
                count++;
            } else {
                oldest = (oldest + 1) % MOST_UNDONE;
            }
        }

        void bringBack(Train train) {
            if (count > 0) {
                count--;
                train.copyFrom(trainAt(count));
            }
        }
    }

    /** The bytes that were appended, 0 to 255 each. */
    private static final class Tape {
        static final int MOST_BYTES = 1000;
        static final int APPENDED = 20;
        static final int NO_BYTE = -1;

        final int[] bytes;
        int length;

        Tape() {
            bytes = new int[MOST_BYTES];
        }

        boolean hasRoom() {
            return length + APPENDED <= MOST_BYTES;
        }

        void putFour(int four) {
            for (int shift = 24; shift >= 0; shift -= 8) {
                put(four >> shift & 255);
            }
        }

        private void put(int one) {
            if (length >= 0 && length < bytes.length) {
                bytes[length] = one;
                length++;
            }
        }

        int byteAt(int i) {
            return i >= 0 && i < length && i < bytes.length ? bytes[i] : NO_BYTE;
        }
    }

    /** Reads the tape by its grammar. A token that cannot stand stays the current one: nothing is read any more. */
    private static final class SetupReader {
        static final int END = 0;
        static final int WHITE = 1;
        static final int WORD = 2;
        static final int DIGITS = 3;
        static final int OTHER = 4;
        static final int MOST_DIGITS = 2;
        static final int NO_INT = -1;

        final Tape tape;
        final Traveller who;
        /** Where the current token starts and ends, and of what kind it is. */
        int start;
        int end;
        int kind;
        boolean wrong;

        SetupReader() {
            tape = new Tape();
            who = new Traveller();
        }

        // ---- tokens

        private static int kindOf(int sign) {
            if (sign >= 'a' && sign <= 'z') {
                return WORD;
            }
            if (sign >= '0' && sign <= '9') {
                return DIGITS;
            }
            if (sign == ' ' || sign == '\n') {
                return WHITE;
            }
            return sign == Tape.NO_BYTE ? END : OTHER;
        }

        private void begin() {
            wrong = false;
            end = 0;
            nextToken();
        }

        private void nextToken() {
            start = end;
            while (start < tape.length && kindOf(tape.byteAt(start)) == WHITE) {
                start++;
            }
            kind = kindOf(tape.byteAt(start));
            end = start + 1;
            boolean isRun = kind == WORD || kind == DIGITS;
            while (isRun && end < tape.length && kindOf(tape.byteAt(end)) == kind) {
                end++;
            }
        }

        private boolean isSign(char sign) {
            return tape.byteAt(start) == sign;
        }

        private boolean isWord(String word) {
            if (kind != WORD || end - start != word.length()) {
                return false;
            }
            for (int i = 0; i < word.length(); i++) {
                if (tape.byteAt(start + i) != word.charAt(i)) {
                    return false;
                }
            }
            return true;
        }

        private boolean isKeyword() {
            return isWord("train") || isWord("first") || isWord("seat") || isWord("ticket")
                || isWord("family") || isWord("window") || isWord("ahead") || isWord("row")
                || isWord("sweets") || isWord("stop");
        }

        private boolean isName() {
            return kind == WORD && end - start <= Traveller.LONGEST_NAME && !isKeyword();
        }

        private int packedName() {
            int name = 0;
            for (int i = start; i < end && i < start + Traveller.LONGEST_NAME; i++) {
                name |= tape.byteAt(i) - 'a' + 1 << Traveller.LETTER_BITS * (i - start);
            }
            return name;
        }

        private int number() {
            if (kind != DIGITS || end - start > MOST_DIGITS) {
                return NO_INT;
            }
            int number = 0;
            for (int i = start; i < end; i++) {
                number = 10 * number + tape.byteAt(i) - '0';
            }
            return number;
        }

        // ---- what must stand, and what may

        private void pass(boolean canStand) {
            wrong = wrong || !canStand;
            if (!wrong) {
                nextToken();
            }
        }

        private void take(String word) {
            pass(isWord(word));
        }

        private boolean takeIfThere(String word) {
            boolean there = !wrong && isWord(word);
            if (there) {
                nextToken();
            }
            return there;
        }

        private int takeInt(int least, int most) {
            int number = number();
            pass(number >= least && number <= most);
            return number;
        }

        private int takeLike() {
            boolean below = isSign('-');
            pass(below || isSign('+'));
            int like = takeInt(0, MOST_LIKE);
            return below ? -like : like;
        }

        private int takeFreeSeat(Train train) {
            wrong = wrong || !train.isFree(number());
            return takeInt(0, train.seats() - 1);
        }

        private int takeName() {
            int name = packedName();
            pass(isName());
            return name;
        }

        // ---- names

        boolean tapeIsName() {
            begin();
            return start == 0 && end == tape.length && isName();
        }

        int nameOnTape() {
            begin();
            return packedName();
        }

        // ---- setups

        /** Answers whether the tape is a setup; if not, the train is good for nothing. */
        boolean readSetup(Train train) {
            train.clear();
            begin();
            take("train");
            train.rows = takeInt(Train.LEAST_ROWS, Train.MOST_ROWS);
            take("first");
            train.first = takeInt(0, train.rows);
            pass(isSign(';'));
            for (int t = 0; t < MOST_TRAVELLERS && kind != END && !wrong; t++) {
                readTraveller(train);
            }
            return kind == END && !wrong;
        }

        private void readTraveller(Train train) {
            who.clear();
            take("seat");
            who.seat = takeFreeSeat(train);
            who.name = takeName();
            if (takeIfThere("ticket")) {
                who.ticket = 1;
            }
            if (takeIfThere("family")) {
                who.family = takeInt(1, MOST_FAMILY);
            }
            if (takeIfThere("window")) {
                who.window = takeLike();
            }
            if (takeIfThere("ahead")) {
                who.ahead = takeLike();
            }
            if (takeIfThere("row")) {
                who.row = takeInt(0, train.rows - 1);
                who.pulls = takeInt(0, MOST_PULLS);
            }
            if (takeIfThere("sweets")) {
                who.sweets = takeInt(0, MOST_SWEETS);
            }
            if (takeIfThere("stop")) {
                who.stop = takeInt(1, MOST_STOP);
            }
            pass(isSign(';') && train.allows(who.ticket, who.seat));
            if (!wrong) {
                train.admit(who);
            }
        }
    }

    /** Tells the setup text byte by byte and remembers only the wanted one: so it needs no room. */
    private static final class SetupWriter {
        int length;
        int wanted;
        int found;

        void write(Train train, int position) {
            length = 0;
            wanted = position;
            found = NOT_FOUND;
            putText("train ");
            putNumber(train.rows);
            putText(" first ");
            putNumber(train.first);
            put(';');
            for (int t = 0; t < train.count; t++) {
                putTraveller(train.traveller(t));
            }
        }

        private void putTraveller(Traveller who) {
            putText("seat ");
            putNumber(who.seat);
            put(' ');
            for (int i = 0; i < Traveller.LONGEST_NAME && who.letterAt(i) > 0; i++) {
                put('a' + who.letterAt(i) - 1);
            }
            if (who.ticket == 1) {
                putText(" ticket");
            }
            putPart(" family ", who.family, 0);
            putLike(" window ", who.window);
            putLike(" ahead ", who.ahead);
            if (who.row > 0 || who.pulls > 0) {
                putText(" row ");
                putNumber(who.row);
                put(' ');
                putNumber(who.pulls);
            }
            putPart(" sweets ", who.sweets, 0);
            putPart(" stop ", who.stop, MOST_STOP);
            put(';');
        }

        private void putPart(String text, int number, int without) {
            if (number != without) {
                putText(text);
                putNumber(number);
            }
        }

        private void putLike(String text, int like) {
            if (like != 0) {
                putText(text);
                put(like > 0 ? '+' : '-');
                putNumber(Math.abs(like));
            }
        }

        private void putNumber(int number) {
            boolean begun = false;
            for (int unit = 100000; unit > 0; unit /= 10) {
                begun = begun || number >= unit || unit == 1;
                if (begun) {
                    put('0' + number / unit % 10);
                }
            }
        }

        private void putText(String text) {
            for (int i = 0; i < text.length(); i++) {
                put(text.charAt(i));
            }
        }

        private void put(int sign) {
            if (length == wanted) {
                found = sign;
            }
            length++;
        }
    }
}
