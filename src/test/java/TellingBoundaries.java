/** The boundary cases that DOC.md names under the promises 12 to 23: what there is, and what if. */
final class TellingBoundaries extends Checks {
    private static final int[] OUTSIDE = {Integer.MIN_VALUE, -6, -1};

    private TellingBoundaries() {
    }

    /** Each number outside 0 to the most, the nearest ones and the farthest. */
    private static void outside(String name, int most, Asked asked, int error) {
        for (int no : OUTSIDE) {
            due(name + " of " + no, asked.of(no), error);
        }
        due(name + " of " + (most + 1), asked.of(most + 1), error);
        due(name + " of the largest number", asked.of(Integer.MAX_VALUE), error);
    }

    private interface Asked {
        int of(int number);
    }

    // ---- Promise 12: of

    @Says(in = "Promise 12", value = "`what`: 0 its loudness, 1 whether it is paid, 2 suspected (1 or 0), 3 early claps so far, "
        + "4 claps in this night, 5 whether it has clapped for this piece (1 or 0), 6 claps so far")
    static void aboutSeat() {
        ApplauseTallies x = new ApplauseTallies();
        int[][] wants = {{3, 0, 0, 0, 0, 0, 0}, {9, 1, 1, 3, 4, 1, 4}, {9, 1, 1, 3, 4, 0, 4}, {9, 1, 1, 3, 0, 0, 4},
            {9, 1, 1, 3, 1, 1, 5}};
        seatIs(x, wants[0]);
        x.loud(29, 9);
        carried(x, "h29;e0;c29;e0;c29;e0;c29;c29");
        seatIs(x, wants[1]);
        x.ends(1);
        seatIs(x, wants[2]);
        x.night();
        seatIs(x, wants[3]);
        carried(x, "e0;w3;c29");
        seatIs(x, wants[4]);
        for (int what = 1; what < 7; what++) {
            due("of(28, " + what + "): another seat", x.of(28, what), 0);
        }
    }

    private static void seatIs(ApplauseTallies x, int[] wants) {
        for (int what = 0; what < 7; what++) {
            due("of(29, " + what + ")", x.of(29, what), wants[what]);
        }
    }

    @Says(in = "Promise 12", value = "claps so far")
    static void manyClapsOfASeat() {
        ApplauseTallies x = made(y -> y.ends(0));
        for (int time = 1; time <= 10; time++) {
            carried(x, "c29*99;c29*99;c29*99;c29*99;c29*99;c29*99");
        }
        due("of(29, 4)", x.of(29, 4), 5940);
        due("of(29, 6)", x.of(29, 6), 5940);
        due("of(29, 3)", x.of(29, 3), 1);
        due("count(3)", x.count(3), 5940);
        x.night();
        due("of(29, 4) in the next night", x.of(29, 4), 0);
        due("of(29, 6) in the next night", x.of(29, 6), 5940);
        due("record(0, 0)", x.record(0, 0), 5940);
    }

    @Says(in = "Promise 12", value = "Returns the number; NO_SUCH if there is no such seat")
    static void ofNoSeat() {
        ApplauseTallies x = made(Checks::busy);
        for (int no : NO_SEATS) {
            for (int what = -1; what <= 7; what++) {
                due("of(" + no + ", " + what + ")", x.of(no, what), NO_SUCH);
            }
        }
        due("of(29, 0)", x.of(29, 0), 3);
    }

    @Says(in = "Promise 12", value = "BAD_VALUE if what is out of range.")
    static void ofNothing() {
        ApplauseTallies x = made(Checks::busy);
        outside("of(0, what)", 6, what -> x.of(0, what), BAD_VALUE);
        outside("of(29, what)", 6, what -> x.of(29, what), BAD_VALUE);
    }

    // ---- Promise 13: performer

    @Says(in = "Promise 13", value = "`what`: 0 encores owed, 1 played, 2 lapsed so far, 3 pieces that ended so far (encores, too)")
    static void aboutPerformer() {
        ApplauseTallies x = new ApplauseTallies();
        performerIs(x, 0, 0, 0, 0);
        x.set(ENCORE, 20);
        carried(x, "e5;c0;e5;c0;e5;c0");
        performerIs(x, 3, 0, 0, 3);
        x.play(5);
        performerIs(x, 2, 1, 0, 4);
        x.night();
        performerIs(x, 0, 1, 2, 4);
        carried(x, "e5;c0;p5;c0;w60");
        performerIs(x, 0, 2, 3, 6);
        carried(x, "e0;c0;e0;c0;e0;c0;e0;c0;e0;c0;e0;c0;e0;c0;e0;c0");
        carried(x, "e5;c0");
        performerIs(x, 0, 2, 4, 7);
        for (int what = 0; what < 4; what++) {
            due("performer(4, " + what + "): another one", x.performer(4, what), 0);
        }
    }

    private static void performerIs(ApplauseTallies x, int owed, int played, int lapsed, int pieces) {
        due("performer(5, 0)", x.performer(5, 0), owed);
        due("performer(5, 1)", x.performer(5, 1), played);
        due("performer(5, 2)", x.performer(5, 2), lapsed);
        due("performer(5, 3)", x.performer(5, 3), pieces);
    }

    @Says(in = "Promise 13", value = "Returns the number; NO_SUCH if there is no such performer")
    static void noPerformer() {
        ApplauseTallies x = made(Checks::fullHouse);
        for (int no : NO_PERFORMERS) {
            for (int what = -1; what <= 4; what++) {
                due("performer(" + no + ", " + what + ")", x.performer(no, what), NO_SUCH);
            }
        }
        due("performer(5, 0)", x.performer(5, 0), 1);
    }

    @Says(in = "Promise 13", value = "BAD_VALUE if what is out of range.")
    static void nothingOfPerformer() {
        ApplauseTallies x = made(Checks::fullHouse);
        outside("performer(0, what)", 3, what -> x.performer(0, what), BAD_VALUE);
        outside("performer(5, what)", 3, what -> x.performer(5, what), BAD_VALUE);
    }

    // ---- Promise 14: owed

    @Says(in = "Promise 14", value = {"`rank`: 0 for the earliest one", "`what`: 0 its performer, 1 for how many seconds it has been owed"})
    static void owedByRank() {
        ApplauseTallies x = made(Checks::fullHouse);
        due("owed(0, 0): the earliest one", x.owed(0, 0), 0);
        due("owed(0, 1)", x.owed(0, 1), 7);
        due("owed(7, 0): the latest one", x.owed(7, 0), 1);
        due("owed(7, 1): 0 seconds at once", x.owed(7, 1), 0);
        x.pass(52);
        due("owed(0, 1): one second before it lapses", x.owed(0, 1), 59);
        x.set(LAPSE, 1);
        due("owed(0, 1) behind a lower LAPSE", x.owed(0, 1), 59);
        x.set(LAPSE, 60);
        x.pass(1);
        due("owed(0, 0): the next one is the earliest then", x.owed(0, 0), 1);
        due("owed(0, 1)", x.owed(0, 1), 59);
    }

    @Says(in = "Promise 14", value = "Returns the number; NO_SUCH if there are not so many")
    static void owedNotSoMany() {
        ApplauseTallies none = new ApplauseTallies();
        outside("owed(rank, 0), none owed", -1, rank -> none.owed(rank, 0), NO_SUCH);
        ApplauseTallies x = made(Checks::fullHouse);
        outside("owed(rank, 0), eight owed", 7, rank -> x.owed(rank, 0), NO_SUCH);
        outside("owed(rank, 2), eight owed", 7, rank -> x.owed(rank, 2), NO_SUCH);
        x.play(0);
        outside("owed(rank, 0), seven owed", 6, rank -> x.owed(rank, 0), NO_SUCH);
        x.night();
        outside("owed(rank, 1), none owed any more", -1, rank -> x.owed(rank, 1), NO_SUCH);
    }

    @Says(in = "Promise 14", value = "BAD_VALUE if what is neither.")
    static void owedNeither() {
        ApplauseTallies x = made(Checks::fullHouse);
        outside("owed(0, what)", 1, what -> x.owed(0, what), BAD_VALUE);
        outside("owed(7, what)", 1, what -> x.owed(7, what), BAD_VALUE);
    }

    // ---- Promise 15: clapper

    @Says(in = "Promise 15", value = {"Returns a seat that clapped in this night, in the order of the first claps.",
        "`rank`: 0 for the first one"})
    static void clappersInOrder() {
        ApplauseTallies x = made(y -> y.ends(0));
        for (int seat = 29; seat >= 0; seat--) {
            x.clap(seat);
            x.clap(29);
            due("clapper(" + (29 - seat) + ")", x.clapper(29 - seat), seat);
            due("clapper(" + (30 - seat) + ")", x.clapper(30 - seat), NO_SUCH);
        }
        x.ends(1);
        x.clap(0);
        due("clapper(0): the order of the night, not of the piece", x.clapper(0), 29);
        due("clapper(29)", x.clapper(29), 0);
        due("clapper(30): once in a night, not once for each piece", x.clapper(30), NO_SUCH);
        ApplauseTallies y = made(z -> carried(z, "e0;c5;c7;e1;c7;c5;c9"));
        int[] seats = {5, 7, 9, NO_SUCH};
        for (int rank = 0; rank < 4; rank++) {
            due("clapper(" + rank + ") of two pieces", y.clapper(rank), seats[rank]);
        }
    }

    @Says(in = "Promise 15", value = "Returns the seat; NO_SUCH if there are not so many.")
    static void clappersNotSoMany() {
        ApplauseTallies x = new ApplauseTallies();
        outside("clapper(rank) at first", -1, x::clapper, NO_SUCH);
        x.ends(0);
        outside("clapper(rank) before a clap", -1, x::clapper, NO_SUCH);
        x.clap(29);
        outside("clapper(rank) behind a clap", 0, x::clapper, NO_SUCH);
        for (int seat = 0; seat < 30; seat++) {
            x.clap(seat);
        }
        outside("clapper(rank) behind all seats", 29, x::clapper, NO_SUCH);
        x.night();
        outside("clapper(rank) in the next night", -1, x::clapper, NO_SUCH);
    }

    // ---- Promise 16: record

    @Says(in = "Promise 16", value = {"`rank`: 0 for the latest one", "`what`: 0 its claps, 1 encores played, 2 lapsed, 3 curtain calls"})
    static void recordsByRank() {
        ApplauseTallies x = made(Checks::fullHouse);
        x.set(CALL, 1);
        carried(x, "k;p1;p2;c0;k;k;n;n");
        int[][] wants = {{0, 0, 0, 0}, {9, 2, 7, 3}};
        for (int rank = 0; rank < 2; rank++) {
            for (int what = 0; what < 4; what++) {
                due("record(" + rank + ", " + what + ")", x.record(rank, what), wants[rank][what]);
            }
        }
    }

    @Says(in = "Promise 16", value = "Returns the number; NO_SUCH if there are not so many records")
    static void recordsNotSoMany() {
        ApplauseTallies x = new ApplauseTallies();
        for (int nights = 0; nights <= 8; nights++) {
            outside("record(rank, 0) behind " + nights, Math.min(nights, 6) - 1, rank -> x.record(rank, 0), NO_SUCH);
            outside("record(rank, 4) behind " + nights, Math.min(nights, 6) - 1, rank -> x.record(rank, 4), NO_SUCH);
            x.night();
        }
    }

    @Says(in = "Promise 16", value = "BAD_VALUE if what is out of range.")
    static void nothingOfRecord() {
        ApplauseTallies x = made(Checks::lastNight);
        outside("record(0, what)", 3, what -> x.record(0, what), BAD_VALUE);
        outside("record(5, what)", 3, what -> x.record(5, what), BAD_VALUE);
    }

    // ---- Promise 17: sign

    @Says(in = "Promise 17", value = "Returns the code of a character of the pad.")
    static void signsOfThePad() {
        ApplauseTallies x = new ApplauseTallies();
        for (int code = 33; code < 113; code++) {
            x.put(code);
        }
        for (int place = 0; place < 80; place++) {
            due("sign(" + place + ")", x.sign(place), 33 + place);
        }
        x.wipe();
        x.put(126);
        due("sign(0)", x.sign(0), 126);
    }

    @Says(in = "Promise 17", value = "Returns the code; NO_SUCH if there is no such place.")
    static void noSuchPlace() {
        ApplauseTallies x = new ApplauseTallies();
        outside("sign(place) of an empty pad", -1, x::sign, NO_SUCH);
        x.put('k');
        outside("sign(place) of one character", 0, x::sign, NO_SUCH);
        fill(x, "x".repeat(79));
        outside("sign(place) of 79", 78, x::sign, NO_SUCH);
        x.put('x');
        outside("sign(place) of a full pad", 79, x::sign, NO_SUCH);
        x.wipe();
        outside("sign(place) of a wiped pad", -1, x::sign, NO_SUCH);
        x.write();
        outside("sign(place) of a bill", 7, x::sign, NO_SUCH);
    }

    // ---- Promise 18: count

    private static void countsAre(ApplauseTallies x, int... wants) {
        for (int what = 0; what < 21; what++) {
            due("count(" + what + ")", x.count(what), wants[what]);
        }
    }

    @Says(in = "Promise 18", value = "`what`: 0 the applause, 1 the time, 2 nights that ended, 3 claps in this night, 4 encores owed, "
        + "5 played so far, 6 lapsed so far, 7 curtain calls in this night, 8 seconds since the latest piece ended (NONE if "
        + "none did in this night), 9 its performer (NONE), 10 seats that are paid, 11 suspected, 12 paid and suspected, as "
        + "sets, 13 to 18 the settings, 19 the length of the pad, 20 how many changes can be undone")
    static void counts() {
        ApplauseTallies x = new ApplauseTallies();
        countsAre(x, 0, 0, 0, 0, 0, 0, 0, 0, NONE, NONE, 0, 0, 0, 10, 200, 60, 2, 3, 50, 0, 0);
        for (int setting = 0; setting < 6; setting++) {
            x.set(setting, LEAST[setting]);
        }
        carried(x, "h29;h0;e5;c29;w1;e0;c29;c29;k;p0;c1;e2");
        fill(x, "k".repeat(80));
        // EARLY is 0 and LAPSE 1: the encore of 5 lapsed with the second.
        countsAre(x, 0, 1, 0, 4, 1, 1, 1, 1, 0, 2, 1 | 1 << 29, 2 | 1 << 29, 1 << 29, 1, 20, 1, 0, 1, 1, 80, 6);
        x.pass(99);
        countsAre(x, 0, 100, 0, 4, 0, 1, 2, 1, 99, 2, 1 | 1 << 29, 2 | 1 << 29, 1 << 29, 1, 20, 1, 0, 1, 1, 80, 6);
        x.night();
        countsAre(x, 0, 100, 1, 0, 0, 1, 2, 0, NONE, NONE, 1 | 1 << 29, 2 | 1 << 29, 1 << 29, 1, 20, 1, 0, 1, 1, 80, 6);
    }

    @Says(in = "Promise 18", value = {"8 seconds since the latest piece ended (NONE if none did in this night)", "9 its performer (NONE)"})
    static void countsOfThePiece() {
        ApplauseTallies x = new ApplauseTallies();
        x.pass(99);
        due("count(8) before a piece", x.count(8), NONE);
        due("count(9) before a piece", x.count(9), NONE);
        x.ends(0);
        due("count(8) at once", x.count(8), 0);
        due("count(9)", x.count(9), 0);
        x.pass(99);
        x.pass(1);
        due("count(8) behind 100 seconds", x.count(8), 100);
        x.ends(5);
        due("count(8) of the latest piece", x.count(8), 0);
        due("count(9) of the latest piece", x.count(9), 5);
        x.night();
        due("count(8) in the next night", x.count(8), NONE);
        due("count(9) in the next night", x.count(9), NONE);
        x.undo();
        due("count(9) behind undo()", x.count(9), 5);
    }

    @Says(in = "Promise 18", value = "20 how many changes can be undone")
    static void countOfChanges() {
        ApplauseTallies x = new ApplauseTallies();
        for (int changes = 0; changes <= 15; changes++) {
            due("count(20) behind " + changes, x.count(20), Math.min(changes, 6));
            x.pay(3);
        }
        for (int left = 5; left >= 0; left--) {
            x.undo();
            due("count(20) behind undo()", x.count(20), left);
        }
        x.undo();
        due("count(20) behind undo() of none", x.count(20), 0);
    }

    @Says(in = "Promise 18", value = "Returns the number; BAD_VALUE if what is out of range.")
    static void countOfNothing() {
        ApplauseTallies x = made(Checks::busy);
        outside("count(what)", 20, x::count, BAD_VALUE);
    }

    // ---- Promise 19: quietIn

    /** Seconds that pass one by one until the applause is not above a number. */
    private static int secondsTo(int applause, Script before) {
        ApplauseTallies x = made(before);
        int seconds = 0;
        for (int left = x.count(0); left > applause; seconds++) {
            left = x.pass(1);
        }
        return seconds;
    }

    private static void sameAsPassing(int applause, Script before) {
        due("quietIn(" + applause + ")", made(before).quietIn(applause), secondsTo(applause, before));
    }

    @Says(in = "Promise 19", value = "Tells in how many seconds, 0 or more, the applause is not above some number, if nothing else is done.")
    static void quietWhen() {
        due("quietIn(0) of no applause", new ApplauseTallies().quietIn(0), 0);
        due("quietIn(9999) of the most", made(Checks::loudest).quietIn(9999), 0);
        due("quietIn(9998) of the most", made(Checks::loudest).quietIn(9998), 1);
        ApplauseTallies x = made(y -> carried(y, "e0;c0"));
        due("quietIn(30) of 30", x.quietIn(30), 0);
        due("quietIn(31) of 30", x.quietIn(31), 0);
        due("quietIn(29) of 30", x.quietIn(29), 1);
        due("quietIn(27): to the very number", x.quietIn(27), 1);
        due("quietIn(26): just above the number", x.quietIn(26), 2);
        for (int decay : new int[] {5, 10, 49, 50}) {
            Script before = y -> {
                y.set(DECAY, decay);
                loudest(y);
            };
            for (int applause : new int[] {0, 1, 99, 100, 5000, 9998, 9999}) {
                sameAsPassing(applause, before);
            }
        }
        // 600 and more seconds from the most applause: pass(1) for each would be too many calls.
        due("quietIn(0) of the most at DECAY 1", made(y -> {
            y.set(DECAY, 1);
            loudest(y);
        }).quietIn(0), secondsBySums(9999, 1));
    }

    private static int secondsBySums(int applause, int decay) {
        int seconds = 0;
        for (int left = applause; left > 0; seconds++) {
            left -= Math.max(1, left * decay / 100);
        }
        return seconds;
    }

    @Says(in = "Promise 19", value = {"`applause`: 0 to 9999", "Returns how many; BAD_VALUE if applause is out of range."})
    static void quietOutOfRange() {
        ApplauseTallies x = made(Checks::loudest);
        outside("quietIn(applause)", 9999, x::quietIn, BAD_VALUE);
        due("quietIn(9999)", x.quietIn(9999), 0);
        due("quietIn(0)", x.quietIn(0), secondsTo(0, Checks::loudest));
        outside("quietIn(applause) of no applause", 9999, new ApplauseTallies()::quietIn, BAD_VALUE);
    }

    // ---- Promise 20: clapsFor

    /** Claps one by one: none is owed before the last one, and one is, or lapsed for want of room, behind it. */
    private static void clapsFit(String what, Script before, int seat, int want) {
        ApplauseTallies x = made(before);
        due("clapsFor(" + seat + ") " + what, x.clapsFor(seat), want);
        int brought = x.count(4) + x.count(6);
        for (int left = want; left > 0; left--) {
            due("encores that came, " + left + " claps before " + what, x.count(4) + x.count(6), brought);
            due("clapsFor(" + seat + ") " + left + " claps before " + what, x.clapsFor(seat), left);
            x.clap(seat);
        }
        due("encores that came " + what, x.count(4) + x.count(6), brought + 1);
        due("clapsFor(" + seat + ") behind it", x.clapsFor(seat), NOT_POSSIBLE);
    }

    @Says(in = "Promise 20", value = "Tells how many claps of a seat, one after the other now, it takes for an encore of this piece to be owed")
    static void clapsNeeded() {
        clapsFit("of 200 by 30", x -> x.ends(0), 0, 7);
        clapsFit("of 900 by 10", x -> {
            x.set(ENCORE, 900);
            x.loud(29, 1);
            x.ends(0);
        }, 29, 90);
        clapsFit("of 20 by 90", x -> {
            x.set(ENCORE, 20);
            x.loud(0, 9);
            x.ends(0);
        }, 0, 1);
        clapsFit("of 180 by 90", x -> {
            x.set(ENCORE, 180);
            x.loud(0, 9);
            x.ends(0);
        }, 0, 2);
        clapsFit("of 181 by 90", x -> {
            x.set(ENCORE, 181);
            x.loud(0, 9);
            x.ends(0);
        }, 0, 3);
        clapsFit("of 31 that are missing by 30", x -> {
            x.set(ENCORE, 61);
            carried(x, "e0;c0");
        }, 1, 2);
        clapsFit("of 30 that are missing by 30", x -> {
            x.set(ENCORE, 60);
            carried(x, "e0;c0");
        }, 1, 1);
    }

    @Says(in = "Promise 20", value = "(whether there is room for it or not).")
    static void clapsNeededWithoutRoom() {
        clapsFit("without room", x -> {
            fullHouse(x);
            x.set(ENCORE, 200);
            x.ends(5);
        }, 0, 7);
    }

    @Says(in = "Promise 20", value = "Returns how many; NO_SUCH if there is no such seat")
    static void clapsNeededOfNoSeat() {
        for (int no : NO_SEATS) {
            due("clapsFor(" + no + ") before a piece", new ApplauseTallies().clapsFor(no), NO_SUCH);
            due("clapsFor(" + no + ") behind a piece", made(x -> x.ends(0)).clapsFor(no), NO_SUCH);
            due("clapsFor(" + no + "), one is owed", made(Checks::fullHouse).clapsFor(no), NO_SUCH);
        }
    }

    @Says(in = "Promise 20", value = "NOT_POSSIBLE if no piece has ended in this night, or one is owed for it, or was.")
    static void clapsNeededNotPossible() {
        ApplauseTallies x = new ApplauseTallies();
        due("clapsFor(0) at first", x.clapsFor(0), NOT_POSSIBLE);
        x.ends(0);
        due("clapsFor(0) behind a piece", x.clapsFor(0), 7);
        carried(x, "c0*7");
        due("clapsFor(0), one is owed", x.clapsFor(0), NOT_POSSIBLE);
        due("clapsFor(29), one is owed", x.clapsFor(29), NOT_POSSIBLE);
        x.pass(60);
        due("count(4)", x.count(4), 0);
        due("clapsFor(0), one was owed and lapsed", x.clapsFor(0), NOT_POSSIBLE);
        x.ends(0);
        due("clapsFor(0) for the next piece", x.clapsFor(0), 7);
        carried(x, "c0*7");
        x.play(0);
        due("clapsFor(0) for the encore, a piece of its own", x.clapsFor(0), 7);
        x.night();
        due("clapsFor(0) in the next night", x.clapsFor(0), NOT_POSSIBLE);
    }

    // ---- Promise 21: lapsesIn

    /** Seconds that pass one by one: the encore is owed before the last one, and not behind it. */
    private static void lapseFits(String what, Script before, int performer, int want) {
        ApplauseTallies x = made(before);
        due("lapsesIn(" + performer + ") " + what, x.lapsesIn(performer), want);
        int lapsed = x.performer(performer, 2);
        for (int left = want; left > 0; left--) {
            due("lapsesIn(" + performer + ") " + left + " seconds before " + what, x.lapsesIn(performer), left);
            due("performer(" + performer + ", 2) before", x.performer(performer, 2), lapsed);
            x.pass(1);
        }
        due("performer(" + performer + ", 2) " + what, x.performer(performer, 2), lapsed + 1);
    }

    @Says(in = "Promise 21", value = "Tells in how many seconds the earliest encore that a performer owes lapses.")
    static void lapsesWhen() {
        lapseFits("of the first in the order", Checks::fullHouse, 0, 53);
        lapseFits("of the earliest of two", Checks::fullHouse, 1, 54);
        lapseFits("of one in the midst", Checks::fullHouse, 5, 58);
        lapseFits("of the later one, the earlier one played", x -> {
            fullHouse(x);
            x.play(0);
        }, 0, 59);
        lapseFits("of one that is owed since now", x -> {
            x.set(LAPSE, 1);
            carried(x, "e5;c0*7");
        }, 5, 1);
        due("lapsesIn(5) at the most", made(x -> {
            x.set(LAPSE, 300);
            carried(x, "e5;c0*7");
        }).lapsesIn(5), 300);
    }

    @Says(in = "Promise 21", value = "Returns how many (1 at least)")
    static void lapsesInOneAtLeast() {
        // The encore of 5 has been owed for 2 seconds: with LAPSE 1 and 2 it is due already.
        for (int lapse = 1; lapse <= 4; lapse++) {
            int value = lapse;
            lapseFits("at LAPSE " + value, x -> {
                fullHouse(x);
                x.set(LAPSE, value);
            }, 5, value == 4 ? 2 : 1);
        }
    }

    @Says(in = "Promise 21", value = "NO_SUCH if there is no such performer")
    static void lapsesInOfNoPerformer() {
        for (int no : NO_PERFORMERS) {
            due("lapsesIn(" + no + ")", made(Checks::fullHouse).lapsesIn(no), NO_SUCH);
            due("lapsesIn(" + no + "), none owed", new ApplauseTallies().lapsesIn(no), NO_SUCH);
        }
    }

    @Says(in = "Promise 21", value = "NONE if none is owed.")
    static void lapsesInOfNone() {
        ApplauseTallies x = new ApplauseTallies();
        due("lapsesIn(0) at first", x.lapsesIn(0), NONE);
        due("lapsesIn(5) at first", x.lapsesIn(5), NONE);
        carried(x, "e0;c0*7");
        due("lapsesIn(0)", x.lapsesIn(0), 60);
        due("lapsesIn(5), another one owes", x.lapsesIn(5), NONE);
        x.play(0);
        due("lapsesIn(0), played", x.lapsesIn(0), NONE);
        carried(x, "c0*7;w60");
        due("lapsesIn(0), lapsed", x.lapsesIn(0), NONE);
    }

    // ---- Promise 22: calls

    private static void callsFit(String what, Script before, int want) {
        ApplauseTallies x = made(before);
        for (int left = want; left > 0; left--) {
            due("calls() " + what, x.calls(), left);
            due("call() " + what, x.call() >= 0 ? 0 : 1, 0);
        }
        due("calls() behind them all, " + what, x.calls(), 0);
        due("call() behind them all, " + what, x.call(), NOT_POSSIBLE);
    }

    @Says(in = "Promise 22", value = {"Tells how many curtain calls there could be now, one after the other, without a clap.", "Returns how many."})
    static void callsLeft() {
        callsFit("of a new house", x -> { }, 0);
        callsFit("of 0 at the least CALL", x -> x.set(CALL, 1), 0);
        callsFit("of 1 at the least CALL", x -> {
            x.set(CALL, 1);
            x.loud(0, 1);
            carried(x, "e0;c0;w9");
        }, 1);
        callsFit("of the most at the least CALL", x -> {
            loudest(x);
            x.set(CALL, 1);
        }, 14);
        callsFit("of the most at the most CALL", x -> {
            loudest(x);
            x.set(CALL, 900);
        }, 4);
        callsFit("of 60 at 60", x -> {
            carried(x, "e0;c0*2");
            x.set(CALL, 60);
        }, 1);
        callsFit("of 60 at 61", x -> {
            carried(x, "e0;c0*2");
            x.set(CALL, 61);
        }, 0);
        callsFit("of 60 at its half", x -> {
            carried(x, "e0;c0*2");
            x.set(CALL, 30);
        }, 2);
        callsFit("of 60 above its half", x -> {
            carried(x, "e0;c0*2");
            x.set(CALL, 31);
        }, 1);
    }

    // ---- Promise 23: ifFound

    /** Seat 29 - n has 10 - n early claps, of n from 0 to 9. */
    private static void tenEarlySeats(ApplauseTallies x) {
        for (int piece = 0; piece < 10; piece++) {
            x.ends(0);
            for (int seat = 0; seat <= piece; seat++) {
                x.clap(29 - seat);
            }
        }
    }

    @Says(in = "Promise 23", value = "Returns the seats that would be suspected with another FOUND.")
    static void suspectedOtherwise() {
        due("ifFound(1) of nobody", new ApplauseTallies().ifFound(1), 0);
        ApplauseTallies x = made(TellingBoundaries::tenEarlySeats);
        for (int found = 1; found <= 9; found++) {
            // The seats 29 down to 19 + found have so many early claps or more.
            int want = ALL_SEATS ^ (1 << 19 + found) - 1;
            due("ifFound(" + found + ")", x.ifFound(found), want);
            due("count(17) stays", x.count(17), 3);
        }
        due("ifFound(3) is as FOUND is", x.ifFound(3), x.count(11));
        due("ifFound(1) of the first seat", made(y -> carried(y, "e0;c0")).ifFound(1), 1);
    }

    @Says(in = "Promise 23", value = {"`found`: 1 to 9", "Returns the seats, as a set; BAD_VALUE if found is out of range."})
    static void foundOutOfRange() {
        ApplauseTallies x = made(TellingBoundaries::tenEarlySeats);
        outside("ifFound(found)", 9, x::ifFound, BAD_VALUE);
        due("ifFound(0)", x.ifFound(0), BAD_VALUE);
        due("ifFound(1)", x.ifFound(1), ALL_SEATS ^ (1 << 20) - 1);
        due("ifFound(9)", x.ifFound(9), ALL_SEATS ^ (1 << 28) - 1);
    }
}
