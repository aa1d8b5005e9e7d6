/** The boundary cases that DOC.md names under the promises 28 to 30: undo, and the slots. */
final class HistoryBoundaries extends Checks {
    private HistoryBoundaries() {
    }

    /** A house behind so many changes, of which each pays one seat more. */
    private static Script paid(int seats) {
        return x -> {
            for (int seat = 0; seat < seats; seat++) {
                x.pay(seat);
            }
        };
    }

    private static void busyAndSaved(ApplauseTallies x) {
        busy(x);
        x.save(0);
    }

    // ---- Promise 28: undo

    @Says(in = "Promise 28", value = "Undoes the latest change: everything except the pad, the slots and the history is as it was before it.")
    static void undoesTheLatest() {
        ApplauseTallies x = made(paid(3));
        x.put(packed("abc"));
        x.save(0);
        x.pay(3);
        due("undo()", x.undo(), 3);
        due("count(10): the latest alone", x.count(10), 7);
        padIs(x, "abc");
        x.pay(9);
        x.put('d');
        x.save(1);
        x.undo();
        padIs(x, "abcd");
        due("count(10)", x.count(10), 7);
        due("restore(1): the slot stays", x.restore(1), 0);
        due("count(10)", x.count(10), 7 | 1 << 9);
        x.undo();
        x.wipe();
        x.undo();
        due("count(19): what was wiped does not come back", x.count(19), 0);
        due("count(10)", x.count(10), 3);
        due("restore(0): the slot stays", x.restore(0), 0);
        due("count(10)", x.count(10), 7);
    }

    @Says(in = "Promise 28", value = "everything except the pad, the slots and the history is as it was before it.")
    static void undoesEverything() {
        for (int setting = 0; setting < 6; setting++) {
            int what = setting;
            undone("set(" + what + ")", Checks::fullHouse, x -> x.set(what, LEAST[what] + 1));
        }
        undone("loud(29, 9)", Checks::fullHouse, x -> x.loud(29, 9));
        undone("pay(29)", Checks::fullHouse, x -> x.pay(29));
        undone("ends(3)", Checks::fullHouse, x -> x.ends(3));
        undone("clap(0)", Checks::fullHouse, x -> x.clap(0));
        undone("clap(29)", Checks::fullHouse, x -> x.clap(29));
        undone("pass(99)", Checks::fullHouse, x -> x.pass(99));
        undone("play(4)", Checks::fullHouse, x -> x.play(4));
        undone("call()", Checks::busy, ApplauseTallies::call);
        undone("night()", Checks::fullHouse, ApplauseTallies::night);
        undone("night() that drops a record", x -> {
            for (int night = 1; night <= 6; night++) {
                carried(x, "e0;c0*" + night + ";n");
            }
        }, ApplauseTallies::night);
        undone("carryOut()", Checks::fullHouse, x -> carried(x, "h0;p4;c1;c2;w60;k;n;e1;c9"));
        undone("restore(0)", Checks::busy, x -> x.restore(0));
    }

    @Says(in = "Promise 28", value = "A history of at most 6 states is kept")
    static void sixStates() {
        for (int changes = 0; changes <= 15; changes++) {
            ApplauseTallies x = made(paid(changes));
            int kept = Math.min(changes, 6);
            due("count(20) behind " + changes, x.count(20), kept);
            for (int left = kept - 1; left >= 0; left--) {
                due("undo() behind " + changes, x.undo(), left);
                due("count(10) behind undo()", x.count(10), (1 << changes - kept + left) - 1);
            }
            due("undo() of none behind " + changes, x.undo(), NOT_POSSIBLE);
            due("count(10) of what can't be undone", x.count(10), (1 << changes - kept) - 1);
        }
    }

    @Says(in = "Promise 28", value = "each method that is a change, and returns no error, records the state before it (also if nothing is "
        + "different then)")
    static void eachChangeRecords() {
        Call[] changes = {x -> x.set(EARLY, 2), x -> x.loud(0, 3), x -> x.pay(0), x -> x.ends(0), x -> x.clap(0), x -> x.pass(1),
            x -> x.play(0), ApplauseTallies::call, ApplauseTallies::night, x -> carried(x, "k"), x -> carried(x, "w0"),
            x -> x.restore(0)};
        for (int i = 0; i < changes.length; i++) {
            ApplauseTallies x = made(y -> {
                fullHouse(y);
                y.set(CALL, 1);
                y.pay(0);
                y.save(0);
                y.undo();
            });
            due("count(20) before the change " + i, x.count(20), 5);
            due("the change " + i + " is no error", Math.min(changes[i].on(x), 0), 0);
            due("count(20) behind the change " + i, x.count(20), 6);
        }
        undone("set() to what it is", Checks::busy, x -> x.set(EARLY, 2));
        undone("loud() to what it is", Checks::busy, x -> x.loud(0, 3));
        undone("ends() of a piece that ends again at once", x -> x.ends(0), x -> x.ends(0));
        undone("restore() of what there is", HistoryBoundaries::busyAndSaved, x -> x.restore(0));
    }

    @Says(in = "Promise 28", value = "each method that is a change, and returns no error")
    static void othersRecordNothing() {
        Call[] others = {ApplauseTallies::write, x -> x.of(0, 0), x -> x.performer(0, 0), x -> x.owed(0, 0), x -> x.clapper(0),
            x -> x.record(0, 0), x -> x.sign(0), x -> x.count(0), x -> x.quietIn(0), x -> x.clapsFor(0), x -> x.lapsesIn(2),
            ApplauseTallies::calls, x -> x.ifFound(1), x -> x.put('k'), ApplauseTallies::wipe, ApplauseTallies::fault,
            x -> x.save(0), x -> x.save(1)};
        for (int i = 0; i < others.length; i++) {
            ApplauseTallies x = made(paid(3));
            others[i].on(x);
            due("count(20) behind the call " + i, x.count(20), 3);
            due("undo() behind the call " + i, x.undo(), 2);
            due("count(10) behind it", x.count(10), 3);
        }
        Call[] refused = {x -> x.set(EARLY, 10), x -> x.loud(30, 1), x -> x.pay(30), x -> x.ends(6), x -> x.clap(0), x -> x.pass(0),
            x -> x.play(0), ApplauseTallies::call, ApplauseTallies::carryOut, x -> x.save(2), x -> x.restore(0)};
        for (int i = 0; i < refused.length; i++) {
            ApplauseTallies x = made(paid(8));
            due("the refused call " + i + " is an error", refused[i].on(x) < 0 ? 1 : 0, 1);
            for (int left = 5; left >= 0; left--) {
                due("undo() behind the refused call " + i, x.undo(), left);
                due("count(10) behind it", x.count(10), (1 << left + 2) - 1);
            }
        }
    }

    @Says(in = "Promise 28", value = "when one more is recorded, the oldest one is dropped.")
    static void oldestIsDropped() {
        ApplauseTallies x = made(paid(7));
        for (int left = 5; left >= 0; left--) {
            due("undo()", x.undo(), left);
        }
        due("count(10): the first change stays", x.count(10), 1);
        due("undo()", x.undo(), NOT_POSSIBLE);
        // The places of the history are used again, behind undo() too.
        ApplauseTallies y = made(paid(9));
        y.undo();
        y.undo();
        for (int seat = 20; seat < 29; seat++) {
            y.pay(seat);
        }
        due("count(20)", y.count(20), 6);
        for (int left = 5; left >= 0; left--) {
            y.undo();
            due("count(10)", y.count(10), 127 | (1 << 23 + left) - (1 << 20));
        }
        due("undo()", y.undo(), NOT_POSSIBLE);
    }

    @Says(in = "Promise 28", value = "An order of a text records nothing by itself.")
    static void ordersRecordNothing() {
        ApplauseTallies x = made(paid(4));
        due("carryOut()", carried(x, "h5;h6;h7;h8;h9;e0;c0*99"), 105);
        due("count(20)", x.count(20), 5);
        for (int left = 4; left >= 0; left--) {
            due("undo()", x.undo(), left);
            due("count(10)", x.count(10), (1 << left) - 1);
        }
        due("undo()", x.undo(), NOT_POSSIBLE);
    }

    @Says(in = "Promise 28", value = {"Returns how many changes can be undone then", "NOT_POSSIBLE if there is none."})
    static void undoOfNone() {
        refused("undo() at first", x -> x.put('k'), ApplauseTallies::undo, NOT_POSSIBLE);
        ApplauseTallies x = made(paid(1));
        due("undo() of the only one", x.undo(), 0);
        due("undo() of none", x.undo(), NOT_POSSIBLE);
        due("undo() is no change", x.count(20), 0);
        due("pay(0)", x.pay(0), 1);
        due("undo() again", x.undo(), 0);
        due("undo() of none again", x.undo(), NOT_POSSIBLE);
        ApplauseTallies y = made(paid(30));
        due("undo() behind 30", y.undo(), 5);
    }

    // ---- Promise 29: save

    @Says(in = "Promise 29", value = "Saves everything except the pad, the history and the slots in a slot")
    static void savesEverything() {
        Script before = x -> {
            fullHouse(x);
            x.set(FOUND, 1);
            carried(x, "h29;c29;c0;w1;k;n;e3;c4;w2;c29*3");
        };
        sameNow("restore() of what was saved", x -> {
            before.on(x);
            fillSlots(x);
        }, x -> {
            before.on(x);
            x.save(1);
            carried(x, "h0;h29;n;e5;c3*9;w60;k;n;n");
            x.set(DECAY, 50);
            x.set(FOUND, 9);
            x.loud(4, 9);
            x.restore(1);
            fillSlots(x);
        });
        ApplauseTallies x = made(paid(6));
        x.put(packed("abc"));
        x.save(0);
        x.put('d');
        x.pay(7);
        x.restore(0);
        padIs(x, "abcd");
        due("count(20): the history is not saved", x.count(20), 6);
        due("undo(): the history is not saved", x.undo(), 5);
        due("count(10)", x.count(10), 63 | 1 << 7);
    }

    /** The same in both slots, so that two houses do not differ by them. */
    private static void fillSlots(ApplauseTallies x) {
        x.save(0);
        x.save(1);
    }

    @Says(in = "Promise 29", value = "and overwrites what was saved there.")
    static void overwrites() {
        for (int slot = 0; slot < 2; slot++) {
            ApplauseTallies x = made(paid(1));
            x.save(slot);
            x.save(1 - slot);
            x.pay(1);
            x.save(slot);
            x.pay(2);
            x.restore(slot);
            due("count(10): what was saved last", x.count(10), 3);
            x.restore(1 - slot);
            due("count(10) of the other slot", x.count(10), 1);
        }
        quiet("save() of the same again", HistoryBoundaries::busyAndSaved, x -> x.save(0));
    }

    @Says(in = "Promise 29", value = {"`slot`: 0 or 1", "BAD_VALUE if there is no such slot."})
    static void saveInNoSlot() {
        for (int no : new int[] {Integer.MIN_VALUE, -1, 2, 3, Integer.MAX_VALUE}) {
            refused("save(" + no + ")", Checks::busy, x -> x.save(no), BAD_VALUE);
        }
        ApplauseTallies x = new ApplauseTallies();
        due("save(0)", x.save(0), 0);
        due("save(1)", x.save(1), 0);
    }

    @Says(in = "Promise 29", value = "Returns how many nights ended")
    static void saveReturnsTheNights() {
        ApplauseTallies x = new ApplauseTallies();
        due("save(0) in the first night", x.save(0), 0);
        x.night();
        due("save(1) in the second", x.save(1), 1);
        due("save(0) behind 99", made(Checks::lastNight).save(0), 99);
    }

    // ---- Promise 30: restore

    @Says(in = "Promise 30", value = "Restores what was saved last in a slot, which keeps it. This is a change.")
    static void restoresAndKeeps() {
        ApplauseTallies x = made(paid(2));
        x.save(1);
        for (int time = 0; time < 3; time++) {
            x.pay(9);
            x.ends(0);
            x.clap(3);
            due("restore(1)", x.restore(1), 0);
            due("count(10)", x.count(10), 3);
            due("count(9)", x.count(9), NONE);
            due("of(3, 6)", x.of(3, 6), 0);
        }
        due("count(20)", x.count(20), 6);
        x.undo();
        due("count(10) behind undo()", x.count(10), 3 | 1 << 9);
        due("of(3, 6) behind undo()", x.of(3, 6), 1);
        undone("restore(0)", Checks::busy, y -> y.restore(0));
        undone("restore(0) of what there is", HistoryBoundaries::busyAndSaved, y -> y.restore(0));
    }

    @Says(in = "Promise 30", value = "Returns how many nights ended then")
    static void restoreReturnsTheNights() {
        ApplauseTallies x = new ApplauseTallies();
        x.save(0);
        carried(x, "n;n");
        x.save(1);
        due("restore(0)", x.restore(0), 0);
        due("count(2)", x.count(2), 0);
        due("restore(1)", x.restore(1), 2);
        ApplauseTallies y = made(Checks::lastNight);
        y.save(0);
        y.undo();
        due("restore(0) behind 99", y.restore(0), 99);
        due("night() behind it", y.night(), NOT_POSSIBLE);
    }

    @Says(in = "Promise 30", value = {"`slot`: 0 or 1", "BAD_VALUE if there is no such slot"})
    static void restoreOfNoSlot() {
        for (int no : new int[] {Integer.MIN_VALUE, -1, 2, 3, Integer.MAX_VALUE}) {
            refused("restore(" + no + ")", Checks::busy, x -> x.restore(no), BAD_VALUE);
            due("restore(" + no + "), nothing saved", new ApplauseTallies().restore(no), BAD_VALUE);
        }
        for (int slot = 0; slot < 2; slot++) {
            ApplauseTallies x = new ApplauseTallies();
            x.save(slot);
            due("restore(" + slot + ")", x.restore(slot), 0);
        }
    }

    @Says(in = "Promise 30", value = "NOT_POSSIBLE if nothing was saved in it.")
    static void restoreOfNothing() {
        for (int slot = 0; slot < 2; slot++) {
            int empty = slot;
            refused("restore(" + empty + ") at first", x -> x.pay(3), x -> x.restore(empty), NOT_POSSIBLE);
            refused("restore(" + empty + ") beside the other slot", x -> {
                x.pay(3);
                x.save(1 - empty);
            }, x -> x.restore(empty), NOT_POSSIBLE);
        }
    }
}
