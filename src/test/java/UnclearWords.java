/**
 * What DOC.md leaves to be read between its sentences: for each reading the sentences that it rests on, and
 * the calls that would answer otherwise if it were read in another way.
 */
final class UnclearWords extends Checks {
    private UnclearWords() {
    }

    /**
     * The encores lapse when the night ends, and the record is of what lapsed in it: so the end of a night
     * belongs to the night that ends, not to the next one.
     */
    @Says(in = "Nights", value = {"When a night ends, all encores that are owed lapse",
        "Its record is kept, the latest 6: its claps, encores played and lapsed in it, curtain calls."})
    @Says(in = "Promise 10", value = "Returns how many encores lapse by that")
    static void encoresThatLapseByNightAreInItsRecord() {
        ApplauseTallies x = made(Checks::fullHouse);
        x.play(0);
        due("night()", x.night(), 7);
        due("record(0, 2) of the night that ended", x.record(0, 2), 7);
        due("record(0, 1)", x.record(0, 1), 1);
        due("count(6)", x.count(6), 7);
        x.write();
        padIs(x, "c0e0l0k0");
        due("night() of the next one", x.night(), 0);
        due("record(0, 2) of the next one", x.record(0, 2), 0);
        due("record(1, 2)", x.record(1, 2), 7);
        ApplauseTallies y = made(Checks::fullHouse);
        carried(y, "n");
        due("record(0, 2) by an order", y.record(0, 2), 8);
        ApplauseTallies z = made(Checks::fullHouse);
        z.pass(53);
        due("night() behind one that lapsed before", z.night(), 7);
        due("record(0, 2): those before and those by the end", z.record(0, 2), 8);
    }

    /**
     * An encore for which there is no room was due for this piece, and no later clap can bring another one: the
     * claps that it takes cannot be told any more, as if it had been owed. Before it came, the room does not matter.
     */
    @Says(in = "Seconds", value = "when one more would be owed, it is not, and is counted as lapsed at once (later claps for this piece "
        + "bring no other one).")
    @Says(in = "Promise 20", value = {"(whether there is room for it or not).",
        "NOT_POSSIBLE if no piece has ended in this night, or one is owed for it, or was."})
    static void encoreWithoutRoomHasCome() {
        ApplauseTallies x = made(Checks::fullHouse);
        x.ends(4);
        due("clapsFor(0) before it", x.clapsFor(0), 1);
        x.clap(0);
        due("count(4)", x.count(4), 8);
        due("count(6)", x.count(6), 1);
        due("clapsFor(0) behind it", x.clapsFor(0), NOT_POSSIBLE);
        x.pass(60);
        due("clapsFor(0) with room again", x.clapsFor(0), NOT_POSSIBLE);
        x.clap(0);
        due("count(4) behind a later clap", x.count(4), 0);
        due("count(6) behind a later clap", x.count(6), 9);
        x.ends(4);
        due("clapsFor(0) for the next piece", x.clapsFor(0), 1);
    }

    /**
     * Only a clap brings an encore: where ENCORE was set to less than the applause, none is owed yet, and the next
     * clap, of whatever loudness, brings it. So it takes 1 clap, not 0.
     */
    @Says(in = "Settings", value = "If the applause is ENCORE or more by that, and no encore was owed for this piece, an encore is owed by "
        + "its performer from now on.")
    @Says(in = "Promise 20", value = "Tells how many claps of a seat, one after the other now, it takes for an encore of this piece to be owed")
    static void encoreThatIsReachedTakesAClap() {
        ApplauseTallies x = made(y -> carried(y, "e0;c0*6"));
        x.loud(29, 1);
        for (int encore : new int[] {181, 180, 179, 20}) {
            x.set(ENCORE, encore);
            due("count(4) with ENCORE " + encore, x.count(4), 0);
            due("clapsFor(29) with ENCORE " + encore, x.clapsFor(29), 1);
        }
        x.pass(1);
        due("count(4) behind a second", x.count(4), 0);
        due("clapsFor(29) behind a second", x.clapsFor(29), 1);
        x.clap(29);
        due("count(4) behind the clap", x.count(4), 1);
        due("clapsFor(29) behind the clap", x.clapsFor(29), NOT_POSSIBLE);
    }

    /**
     * A number may be 0, so that "c5*0" has no fault; it is no clap at all, and each clap is an order of its own: no
     * order is carried out, and none returns an error, not even for a seat that there is not.
     */
    @Says(in = "Texts", value = {"\"c\" number [ \"*\" number ]", "\"c\": clap() of a seat, so many times (once without), each an order of its own",
        "a number 0 to 99"})
    @Says(in = "Promise 27", value = {"up to the first one that returns an error", "Returns how many orders were carried out"})
    static void noClapsAreNoOrder() {
        ApplauseTallies x = new ApplauseTallies();
        fill(x, "c0*0");
        due("fault() of c0*0", x.fault(), NONE);
        due("carryOut() of c0*0 before a piece", x.carryOut(), 0);
        due("carryOut() of an order behind c0*0", carried(x, "c0*0;h1"), 1);
        due("carryOut() of an order behind c30*0", carried(x, "c30*0;c99*0;h2"), 1);
        due("count(10): both were carried out", x.count(10), 6);
        due("carryOut() of c30*1 is an error", carried(x, "c30*1;h3"), 0);
        due("count(10)", x.count(10), 6);
        x.ends(0);
        due("carryOut() of c0*0 behind a piece", carried(x, "c0*0"), 0);
        due("count(3)", x.count(3), 0);
        due("clapper(0)", x.clapper(0), NO_SUCH);
        due("of(0, 5)", x.of(0, 5), 0);
    }

    /** The words "so far" stand behind "1 played, 2 lapsed" together, and as in count(5): over all nights. */
    @Says(in = "Promise 13", value = "1 played, 2 lapsed so far")
    @Says(in = "Promise 18", value = "5 played so far, 6 lapsed so far")
    static void playedCountsOverAllNights() {
        ApplauseTallies x = new ApplauseTallies();
        x.set(ENCORE, 20);
        for (int night = 1; night <= 3; night++) {
            carried(x, "e2;c0;p2;c0;e5;c0;p5");
            due("performer(2, 1) in the night " + night, x.performer(2, 1), night);
            due("performer(5, 1) in the night " + night, x.performer(5, 1), night);
            due("performer(2, 2) in the night " + night, x.performer(2, 2), night - 1);
            due("count(5) in the night " + night, x.count(5), 2 * night);
            x.night();
            due("performer(2, 1) behind the night " + night, x.performer(2, 1), night);
            due("performer(2, 2) behind the night " + night, x.performer(2, 2), night);
            due("count(5) behind the night " + night, x.count(5), 2 * night);
            due("record(0, 1) is of the night alone", x.record(0, 1), 2);
        }
    }

    /** Encores lapse in a second: where LAPSE was set to less than they have been owed, they are owed until the next one. */
    @Says(in = "Seconds", value = "then each encore that has been owed for LAPSE seconds or more lapses.")
    @Says(in = "Promise 21", value = "Returns how many (1 at least)")
    static void lapseThatIsReachedTakesASecond() {
        ApplauseTallies x = made(Checks::fullHouse);
        x.set(LAPSE, 1);
        due("count(4) with a lower LAPSE", x.count(4), 8);
        due("lapsesIn(0)", x.lapsesIn(0), 1);
        due("owed(0, 1)", x.owed(0, 1), 7);
        due("play(0) of one that is due", x.play(0), 1);
        x.pass(1);
        due("count(4) behind a second", x.count(4), 0);
        due("count(6)", x.count(6), 7);
    }
}
