/**
 * The tally of one house's applause. ../shared/DOC.md holds what it promises, ../shared/LANGUAGE.md
 * the part of Java that it is written in.
 */
public final class ApplauseTallies {
    public static final int NO_SUCH = -1, BAD_VALUE = -2, BAD_TEXT = -3, TOO_MANY = -4, NOT_POSSIBLE = -5, NONE = -6;
    public static final int DECAY = 0, ENCORE = 1, LAPSE = 2, EARLY = 3, FOUND = 4, CALL = 5;

    private static final int SETTINGS = 6;
    private static final int[] LEAST = {1, 20, 1, 0, 1, 1};
    private static final int[] MOST = {50, 900, 300, 9, 9, 900};
    private static final int[] FIRST = {10, 200, 60, 2, 3, 50};

    private static final int SEATS = 30;
    private static final int PERFORMERS = 6;
    private static final int LEAST_LOUDNESS = 1;
    private static final int MOST_LOUDNESS = 9;
    private static final int FIRST_LOUDNESS = 3;
    private static final int CLAP_WEIGHT = 10;
    private static final int MOST_APPLAUSE = 9999;
    private static final int MOST_OWED = 8;
    private static final int MOST_SECONDS = 99;
    private static final int MOST_TIME = 99999;
    private static final int MOST_NIGHTS = 99;
    private static final int RECORDS = 6;
    private static final int PAD_LENGTH = 80;
    private static final int MOST_PUT = 8;
    private static final int FIRST_CODE = 33;
    private static final int LAST_CODE = 126;
    private static final int HISTORY = 6;
    private static final int SLOTS = 2;

    /** The parts of a night's record, by the numbers that record() takes. */
    private static final int CLAPS = 0, PLAYED = 1, LAPSED = 2, CURTAIN = 3, RECORD_PARTS = 4;

    private final House house;
    private final History history;
    private final House[] slots;
    private final Pad pad;
    private final OrderReader reader;

    public ApplauseTallies() {
        house = new House();
        history = new History();
        slots = new House[SLOTS];
        pad = new Pad();
        reader = new OrderReader(pad);
    }

    // ---- changes

    public int set(int setting, int value) {
        history.setAside(house);
        return history.keepUnlessError(house.changeSetting(setting, value));
    }

    public int loud(int seat, int loudness) {
        history.setAside(house);
        return history.keepUnlessError(house.changeLoudness(seat, loudness));
    }

    public int pay(int seat) {
        history.setAside(house);
        return history.keepUnlessError(house.switchPay(seat));
    }

    public int ends(int performer) {
        history.setAside(house);
        return history.keepUnlessError(house.endPiece(performer));
    }

    public int clap(int seat) {
        history.setAside(house);
        return history.keepUnlessError(house.takeClap(seat));
    }

    public int pass(int seconds) {
        history.setAside(house);
        return history.keepUnlessError(house.letPass(seconds));
    }

    public int play(int performer) {
        history.setAside(house);
        return history.keepUnlessError(house.playEncore(performer));
    }

    public int call() {
        history.setAside(house);
        return history.keepUnlessError(house.takeCurtain());
    }

    public int night() {
        history.setAside(house);
        return history.keepUnlessError(house.endNight());
    }

    public int write() {
        pad.clear();
        house.writeBill(pad);
        return pad.length();
    }

    // ---- what there is

    public int of(int seat, int what) {
        return house.aboutSeat(seat, what);
    }

    public int performer(int performer, int what) {
        return house.encores.aboutPerformer(performer, what);
    }

    public int owed(int rank, int what) {
        return house.encores.aboutOwed(rank, what, house.time);
    }

    public int clapper(int rank) {
        return house.seats.clapperAt(rank);
    }

    public int record(int rank, int what) {
        return house.recordOf(rank, what);
    }

    public int sign(int place) {
        return pad.has(place) ? pad.codeAt(place) : NO_SUCH;
    }

    public int count(int what) {
        switch (what) {
            case 19:
                return pad.length();
            case 20:
                return history.kept();
            default:
                return house.numberOf(what);
        }
    }

    // ---- what if

    public int quietIn(int applause) {
        return house.secondsUntil(applause);
    }

    public int clapsFor(int seat) {
        return house.clapsUntilEncore(seat);
    }

    public int lapsesIn(int performer) {
        return house.secondsUntilLapse(performer);
    }

    public int calls() {
        return house.curtainsLeft();
    }

    public int ifFound(int found) {
        if (found < LEAST[FOUND] || found > MOST[FOUND]) {
            return BAD_VALUE;
        }
        return house.seats.suspected(found);
    }

    // ---- texts

    public int put(long characters) {
        return pad.appendAll(characters);
    }

    public int wipe() {
        int length = pad.length();
        pad.clear();
        return length;
    }

    public int fault() {
        return reader.faultPlace();
    }

    public int carryOut() {
        if (reader.faultPlace() != NONE) {
            return BAD_TEXT;
        }
        history.setAside(house);
        int done = reader.carryOutIn(house);
        pad.clear();
        return history.keepUnlessError(done);
    }

    // ---- undo, saving

    public int undo() {
        return history.takeBack(house);
    }

    public int save(int slot) {
        if (slot < 0 || slot >= slots.length) {
            return BAD_VALUE;
        }
        House saved = slots[slot];
        if (saved == null) {
            saved = new House();
            slots[slot] = saved;
        }
        saved.copyFrom(house);
        return house.nights;
    }

    public int restore(int slot) {
        if (slot < 0 || slot >= slots.length) {
            return BAD_VALUE;
        }
        House saved = slots[slot];
        if (saved == null) {
            return NOT_POSSIBLE;
        }
        history.setAside(house);
        house.copyFrom(saved);
        return history.keepUnlessError(house.nights);
    }

    private static boolean isSeat(int seat) {
        return seat >= 0 && seat < SEATS;
    }

    private static boolean isPerformer(int performer) {
        return performer >= 0 && performer < PERFORMERS;
    }

    /** What is left of an applause behind one more second. */
    private static int afterSecond(int applause, int decay) {
        return applause <= 0 ? 0 : applause - Math.max(applause * decay / 100, 1);
    }

    /** A row of numbers that looks at each index before it uses it; outside the row stands 0. */
    private static final class Row {
        private final int[] cells;

        Row(int length) {
            cells = new int[Math.max(length, 0)];
        }

        int at(int place) {
            return place >= 0 && place < cells.length ? cells[place] : 0;
        }

        void store(int place, int value) {
            if (place >= 0 && place < cells.length) {
                cells[place] = value;
            }
        }

        void add(int place, int more) {
            if (place >= 0 && place < cells.length) {
                cells[place] += more;
            }
        }

        void fill(int value) {
            for (int i = 0; i < cells.length; i++) {
                cells[i] = value;
            }
        }

        int sum() {
            int sum = 0;
            for (int i = 0; i < cells.length; i++) {
                sum += cells[i];
            }
            return sum;
        }

        void copyFrom(Row other) {
            System.arraycopy(other.cells, 0, cells, 0, Math.min(cells.length, other.cells.length));
        }
    }

    /** The seats: how loud, paid or not, and what they clapped. */
    private static final class Seats {
        private final Row loudness = new Row(SEATS);
        private final Row early = new Row(SEATS);
        private final Row clapsTonight = new Row(SEATS);
        private final Row clapsSoFar = new Row(SEATS);
        private final Row clappers = new Row(SEATS);
        private int clapperCount;
        private int paid;
        private int clappedForPiece;

        Seats() {
            loudness.fill(FIRST_LOUDNESS);
        }

        void copyFrom(Seats other) {
            loudness.copyFrom(other.loudness);
            early.copyFrom(other.early);
            clapsTonight.copyFrom(other.clapsTonight);
            clapsSoFar.copyFrom(other.clapsSoFar);
            clappers.copyFrom(other.clappers);
            clapperCount = other.clapperCount;
            paid = other.paid;
            clappedForPiece = other.clappedForPiece;
        }

        boolean hasClapped(int seat) {
            return (clappedForPiece >> seat & 1) == 1;
        }

        void beginPiece() {
            clappedForPiece = 0;
        }

        void beginNight() {
            clappedForPiece = 0;
            clapsTonight.fill(0);
            clapperCount = 0;
        }

        void addClap(int seat, boolean earlyNow) {
            if (earlyNow && !hasClapped(seat)) {
                early.add(seat, 1);
            }
            if (clapsTonight.at(seat) == 0) {
                clappers.store(clapperCount, seat);
                clapperCount++;
            }
            clappedForPiece |= 1 << seat;
            clapsTonight.add(seat, 1);
            clapsSoFar.add(seat, 1);
        }

        int suspected(int found) {
            int set = 0;
            for (int seat = 0; seat < SEATS; seat++) {
                if (early.at(seat) >= found) {
                    set |= 1 << seat;
                }
            }
            return set;
        }

        int clapperAt(int rank) {
            return rank >= 0 && rank < clapperCount ? clappers.at(rank) : NO_SUCH;
        }
    }

    /** The encores that are owed, in the order in which they came, and what each performer did. */
    private static final class Encores {
        private final Row owers = new Row(MOST_OWED);
        private final Row since = new Row(MOST_OWED);
        private final Row played = new Row(PERFORMERS);
        private final Row lapsed = new Row(PERFORMERS);
        private final Row pieces = new Row(PERFORMERS);
        private int owedCount;

        void copyFrom(Encores other) {
            owers.copyFrom(other.owers);
            since.copyFrom(other.since);
            played.copyFrom(other.played);
            lapsed.copyFrom(other.lapsed);
            pieces.copyFrom(other.pieces);
            owedCount = other.owedCount;
        }

        /** Returns whether there was room; without room the encore lapses at once. */
        boolean owe(int performer, int time) {
            if (owedCount >= MOST_OWED) {
                lapsed.add(performer, 1);
                return false;
            }
            owers.store(owedCount, performer);
            since.store(owedCount, time);
            owedCount++;
            return true;
        }

        /** Lapses all that have been owed since that time or longer, and returns how many. */
        int lapseSince(int time) {
            int left = 0;
            for (int rank = 0; rank < owedCount; rank++) {
                if (since.at(rank) <= time) {
                    lapsed.add(owers.at(rank), 1);
                } else {
                    owers.store(left, owers.at(rank));
                    since.store(left, since.at(rank));
                    left++;
                }
            }
            int gone = owedCount - left;
            owedCount = left;
            return gone;
        }

        int earliestOf(int performer) {
            for (int rank = 0; rank < owedCount; rank++) {
                if (owers.at(rank) == performer) {
                    return rank;
                }
            }
            return NONE;
        }

        int owedBy(int performer) {
            int owed = 0;
            for (int rank = 0; rank < owedCount; rank++) {
                if (owers.at(rank) == performer) {
                    owed++;
                }
            }
            return owed;
        }

        /** Returns whether one was owed. */
        boolean playEarliestOf(int performer) {
            int earliest = earliestOf(performer);
            if (earliest == NONE) {
                return false;
            }
            for (int rank = earliest + 1; rank < owedCount; rank++) {
                owers.store(rank - 1, owers.at(rank));
                since.store(rank - 1, since.at(rank));
            }
            owedCount--;
            played.add(performer, 1);
            return true;
        }

        int aboutPerformer(int performer, int what) {
            if (!isPerformer(performer)) {
                return NO_SUCH;
            }
            switch (what) {
                case 0:
                    return owedBy(performer);
                case 1:
                    return played.at(performer);
                case 2:
                    return lapsed.at(performer);
                case 3:
                    return pieces.at(performer);
                default:
                    return BAD_VALUE;
            }
        }

        int aboutOwed(int rank, int what, int time) {
            if (rank < 0 || rank >= owedCount) {
                return NO_SUCH;
            }
            switch (what) {
                case 0:
                    return owers.at(rank);
                case 1:
                    return time - since.at(rank);
                default:
                    return BAD_VALUE;
            }
        }
    }

    /** All that undo and the slots bring back. */
    private static final class House {
        private final Row settings = new Row(SETTINGS);
        private final Seats seats = new Seats();
        private final Encores encores = new Encores();
        private final Row tonight = new Row(RECORD_PARTS);
        private final Row records = new Row(RECORDS * RECORD_PARTS);
        private int applause;
        private int time;
        private int nights;
        private int pieceBy = NONE;
        private int pieceEnd;
        private boolean encoreCame;

        House() {
            for (int i = 0; i < SETTINGS && i < FIRST.length; i++) {
                settings.store(i, FIRST[i]);
            }
        }

        void copyFrom(House other) {
            settings.copyFrom(other.settings);
            seats.copyFrom(other.seats);
            encores.copyFrom(other.encores);
            tonight.copyFrom(other.tonight);
            records.copyFrom(other.records);
            applause = other.applause;
            time = other.time;
            nights = other.nights;
            pieceBy = other.pieceBy;
            pieceEnd = other.pieceEnd;
            encoreCame = other.encoreCame;
        }

        int changeSetting(int setting, int value) {
            if (setting < 0 || setting >= LEAST.length || setting >= MOST.length) {
                return BAD_VALUE;
            }
            if (value < LEAST[setting] || value > MOST[setting]) {
                return BAD_VALUE;
            }
            int before = settings.at(setting);
            settings.store(setting, value);
            return before;
        }

        int changeLoudness(int seat, int loudness) {
            if (!isSeat(seat)) {
                return NO_SUCH;
            }
            if (loudness < LEAST_LOUDNESS || loudness > MOST_LOUDNESS) {
                return BAD_VALUE;
            }
            int before = seats.loudness.at(seat);
            seats.loudness.store(seat, loudness);
            return before;
        }

        int switchPay(int seat) {
            if (!isSeat(seat)) {
                return NO_SUCH;
            }
            seats.paid ^= 1 << seat;
            return seats.paid;
        }

        int endPiece(int performer) {
            if (!isPerformer(performer)) {
                return NO_SUCH;
            }
            int before = applause;
            beginApplause(performer);
            return before;
        }

        private void beginApplause(int performer) {
            encores.pieces.add(performer, 1);
            seats.beginPiece();
            applause = 0;
            pieceBy = performer;
            pieceEnd = time;
            encoreCame = false;
        }

        int takeClap(int seat) {
            if (!isSeat(seat)) {
                return NO_SUCH;
            }
            if (pieceBy == NONE) {
                return NOT_POSSIBLE;
            }
            seats.addClap(seat, time - pieceEnd <= settings.at(EARLY));
            tonight.add(CLAPS, 1);
            applause = Math.min(applause + CLAP_WEIGHT * seats.loudness.at(seat), MOST_APPLAUSE);
            if (applause >= settings.at(ENCORE) && !encoreCame) {
                bringEncore();
            }
            return applause;
        }

        private void bringEncore() {
            // An encore without room counts as come, too: later claps bring no other one.
            encoreCame = true;
            if (!encores.owe(pieceBy, time)) {
                tonight.add(LAPSED, 1);
            }
        }

        int letPass(int seconds) {
            if (seconds < 1 || seconds > MOST_SECONDS) {
                return BAD_VALUE;
            }
            if (time > MOST_TIME - seconds) {
                return NOT_POSSIBLE;
            }
            for (int second = 0; second < seconds; second++) {
                applause = afterSecond(applause, settings.at(DECAY));
                time++;
                tonight.add(LAPSED, encores.lapseSince(time - settings.at(LAPSE)));
            }
            return applause;
        }

        int playEncore(int performer) {
            if (!isPerformer(performer)) {
                return NO_SUCH;
            }
            if (!encores.playEarliestOf(performer)) {
                return NOT_POSSIBLE;
            }
            tonight.add(PLAYED, 1);
            beginApplause(performer);
            return encores.owedBy(performer);
        }

        int takeCurtain() {
            if (applause < settings.at(CALL)) {
                return NOT_POSSIBLE;
            }
            applause /= 2;
            tonight.add(CURTAIN, 1);
            return applause;
        }

        int endNight() {
            if (nights >= MOST_NIGHTS) {
                return NOT_POSSIBLE;
            }
            int gone = encores.lapseSince(time);
            tonight.add(LAPSED, gone);
            for (int part = 0; part < RECORD_PARTS; part++) {
                records.store(recordPlace(nights, part), tonight.at(part));
            }
            nights++;
            tonight.fill(0);
            seats.beginNight();
            applause = 0;
            pieceBy = NONE;
            return gone;
        }

        /** A night's record takes the place of the one RECORDS nights before. */
        private static int recordPlace(int night, int part) {
            return night % RECORDS * RECORD_PARTS + part;
        }

        void writeBill(Pad pad) {
            pad.appendPart('c', tonight.at(CLAPS));
            pad.appendPart('e', tonight.at(PLAYED));
            pad.appendPart('l', tonight.at(LAPSED));
            pad.appendPart('k', tonight.at(CURTAIN));
            for (int performer = 0; performer < PERFORMERS; performer++) {
                int owed = encores.owedBy(performer);
                if (owed > 0) {
                    pad.appendPart(',', performer);
                    pad.appendPart(':', owed);
                }
            }
        }

        int aboutSeat(int seat, int what) {
            if (!isSeat(seat)) {
                return NO_SUCH;
            }
            switch (what) {
                case 0:
                    return seats.loudness.at(seat);
                case 1:
                    return seats.paid >> seat & 1;
                case 2:
                    return seats.early.at(seat) >= settings.at(FOUND) ? 1 : 0;
                case 3:
                    return seats.early.at(seat);
                case 4:
                    return seats.clapsTonight.at(seat);
                case 5:
                    return seats.hasClapped(seat) ? 1 : 0;
                case 6:
                    return seats.clapsSoFar.at(seat);
                default:
                    return BAD_VALUE;
            }
        }

        private int suspectedNow() {
            return seats.suspected(settings.at(FOUND));
        }

        int recordOf(int rank, int what) {
            if (rank < 0 || rank >= Math.min(nights, RECORDS)) {
                return NO_SUCH;
            }
            if (what < 0 || what >= RECORD_PARTS) {
                return BAD_VALUE;
            }
            return records.at(recordPlace(nights - 1 - rank, what));
        }

        /** The numbers of count() that are the house's own. */
        int numberOf(int what) {
            switch (what) {
                case 0:
                    return applause;
                case 1:
                    return time;
                case 2:
                    return nights;
                case 3:
                    return tonight.at(CLAPS);
                case 4:
                    return encores.owedCount;
                case 5:
                    return encores.played.sum();
                case 6:
                    return encores.lapsed.sum();
                case 7:
                    return tonight.at(CURTAIN);
                case 8:
                    return pieceBy == NONE ? NONE : time - pieceEnd;
                case 9:
                    return pieceBy;
                case 10:
                    return seats.paid;
                case 11:
                    return suspectedNow();
                case 12:
                    return seats.paid & suspectedNow();
                default:
                    return what >= 13 && what < 13 + SETTINGS ? settings.at(what - 13) : BAD_VALUE;
            }
        }

        int secondsUntil(int bound) {
            if (bound < 0 || bound > MOST_APPLAUSE) {
                return BAD_VALUE;
            }
            int left = applause;
            int seconds = 0;
            // A second takes 1 at least, so that there are never more seconds than applause.
            while (left > bound && seconds < MOST_APPLAUSE) {
                left = afterSecond(left, settings.at(DECAY));
                seconds++;
            }
            return seconds;
        }

        int clapsUntilEncore(int seat) {
            if (!isSeat(seat)) {
                return NO_SUCH;
            }
            if (pieceBy == NONE || encoreCame) {
                return NOT_POSSIBLE;
            }
            int step = CLAP_WEIGHT * seats.loudness.at(seat);
            int missing = settings.at(ENCORE) - applause;
            // Only a clap brings an encore, even if the applause is high enough already.
            return step <= 0 || missing <= 0 ? 1 : (missing + step - 1) / step;
        }

        int secondsUntilLapse(int performer) {
            if (!isPerformer(performer)) {
                return NO_SUCH;
            }
            int earliest = encores.earliestOf(performer);
            if (earliest == NONE) {
                return NONE;
            }
            int owedFor = time - encores.since.at(earliest);
            // LAPSE may have been lowered: what is due already lapses with the next second.
            return Math.max(settings.at(LAPSE) - owedFor, 1);
        }

        int curtainsLeft() {
            int left = applause;
            int curtains = 0;
            while (left > 0 && left >= settings.at(CALL)) {
                left /= 2;
                curtains++;
            }
            return curtains;
        }
    }

    /** The states before the latest changes, in a ring with one place more than are kept. */
    private static final class History {
        private static final int RING = HISTORY + 1;
        private final House[] states = new House[RING];
        private int next;
        private int kept;

        History() {
            for (int i = 0; i < states.length; i++) {
                states[i] = new House();
            }
        }

        int kept() {
            return kept;
        }

        private House stateAt(int place) {
            return place >= 0 && place < states.length ? states[place] : null;
        }

        /** Copies the state to the free place, which counts only if the change succeeds. */
        void setAside(House house) {
            House free = stateAt(next);
            if (free != null) {
                free.copyFrom(house);
            }
        }

        int keepUnlessError(int answer) {
            if (answer >= 0) {
                next = (next + 1) % RING;
                kept = Math.min(kept + 1, HISTORY);
            }
            return answer;
        }

        int takeBack(House house) {
            int latest = (next + RING - 1) % RING;
            House before = stateAt(latest);
            if (kept <= 0 || before == null) {
                return NOT_POSSIBLE;
            }
            house.copyFrom(before);
            next = latest;
            kept--;
            return kept;
        }
    }

    /** The text of orders or of a bill. */
    private static final class Pad {
        private final int[] codes = new int[PAD_LENGTH];
        private int length;

        int length() {
            return length;
        }

        boolean has(int place) {
            return place >= 0 && place < length;
        }

        /** Behind the end stands 0, which no order holds. */
        int codeAt(int place) {
            return place >= 0 && place < length && place < codes.length ? codes[place] : 0;
        }

        void clear() {
            length = 0;
        }

        private void append(int code) {
            if (length >= 0 && length < codes.length) {
                codes[length] = code;
                length++;
            }
        }

        void appendPart(char letter, int number) {
            append(letter);
            boolean begun = false;
            for (int power = 1000000000; power > 0; power /= 10) {
                int digit = number / power % 10;
                begun = begun || digit > 0 || power == 1;
                if (begun) {
                    append('0' + digit);
                }
            }
        }

        int appendAll(long characters) {
            int amount = amountOf(characters);
            if (amount < 0) {
                return amount;
            }
            if (length + amount > PAD_LENGTH) {
                return TOO_MANY;
            }
            for (int i = amount - 1; i >= 0; i--) {
                append((int) (characters >>> (8 * i) & 255));
            }
            return length;
        }

        /** How many characters the number holds, or BAD_VALUE. */
        private static int amountOf(long characters) {
            int amount = 0;
            long rest = characters;
            while (amount < MOST_PUT && rest != 0) {
                int code = (int) (rest & 255);
                if (code < FIRST_CODE || code > LAST_CODE) {
                    return BAD_VALUE;
                }
                rest >>>= 8;
                amount++;
            }
            return amount == 0 ? BAD_VALUE : amount;
        }
    }

    /** Reads the orders of the pad; where it stops short, its place is the fault. */
    private static final class OrderReader {
        private final Pad pad;
        private int place;
        private int kind;
        private int number;
        private int times;

        OrderReader(Pad pad) {
            this.pad = pad;
        }

        int faultPlace() {
            place = 0;
            // Each round reads a character at least, or is the last one.
            for (int i = 0; i <= PAD_LENGTH; i++) {
                if (!readOrder()) {
                    return place;
                }
                if (place >= pad.length()) {
                    return NONE;
                }
                if (!readSign(';')) {
                    return place;
                }
            }
            return NONE;
        }

        /** Carries out up to the first error; only for a pad without a fault. */
        int carryOutIn(House house) {
            place = 0;
            int done = 0;
            for (int i = 0; i <= PAD_LENGTH && readOrder(); i++) {
                for (int time = 0; time < times; time++) {
                    if (carryOrderOutIn(house) < 0) {
                        return done;
                    }
                    done++;
                }
                readSign(';');
            }
            return done;
        }

        private int carryOrderOutIn(House house) {
            switch (kind) {
                case 'e':
                    return house.endPiece(number);
                case 'c':
                    return house.takeClap(number);
                case 'w':
                    return house.letPass(number);
                case 'p':
                    return house.playEncore(number);
                case 'k':
                    return house.takeCurtain();
                case 'n':
                    return house.endNight();
                default:
                    return house.switchPay(number);
            }
        }

        private boolean readOrder() {
            kind = pad.codeAt(place);
            times = 1;
            switch (kind) {
                case 'k':
                case 'n':
                    place++;
                    return true;
                case 'e':
                case 'p':
                    place++;
                    return readNumber(1);
                case 'w':
                case 'h':
                    place++;
                    return readNumber(2);
                case 'c':
                    place++;
                    return readNumber(2) && readTimes();
                default:
                    return false;
            }
        }

        private boolean readTimes() {
            if (!readSign('*')) {
                return true;
            }
            int seat = number;
            boolean read = readNumber(2);
            times = number;
            number = seat;
            return read;
        }

        private boolean readSign(char sign) {
            if (pad.codeAt(place) != sign) {
                return false;
            }
            place++;
            return true;
        }

        /** Stops before one digit too many and before one behind a leading zero: none can stand there. */
        private boolean readNumber(int digits) {
            number = digitHere();
            if (number < 0) {
                return false;
            }
            place++;
            int digit = digitHere();
            if (digits > 1 && number > 0 && digit >= 0) {
                number = number * 10 + digit;
                place++;
            }
            return true;
        }

        /** The digit at the place, or -1. */
        private int digitHere() {
            int code = pad.codeAt(place);
            return code >= '0' && code <= '9' ? code - '0' : -1;
        }
    }
}
