/** For each promise of DOC.md: ordinary inputs, the edges that it names, and wrong inputs. */
public final class PromiseTests extends Checks {
    private static void newObject() {
        ApplauseTallies x = new ApplauseTallies();
        int[] numbers = {0, 0, 0, 0, 0, 0, 0, 0, NONE, NONE, 0, 0, 0, 10, 200, 60, 2, 3, 50, 0, 0};
        for (int what = 0; what < numbers.length; what++) {
            due("count(" + what + ")", x.count(what), numbers[what]);
        }
        for (int seat = 0; seat < 30; seat++) {
            for (int what = 0; what < 7; what++) {
                due("of(" + seat + ", " + what + ")", x.of(seat, what), what == 0 ? 3 : 0);
            }
        }
        for (int performer = 0; performer < 6; performer++) {
            for (int what = 0; what < 4; what++) {
                due("performer(" + performer + ", " + what + ")", x.performer(performer, what), 0);
            }
        }
        due("owed(0, 0)", x.owed(0, 0), NO_SUCH);
        due("clapper(0)", x.clapper(0), NO_SUCH);
        due("record(0, 0)", x.record(0, 0), NO_SUCH);
        due("sign(0)", x.sign(0), NO_SUCH);
        due("fault()", x.fault(), 0);
        due("undo()", x.undo(), NOT_POSSIBLE);
        due("restore(0)", x.restore(0), NOT_POSSIBLE);
        due("restore(1)", x.restore(1), NOT_POSSIBLE);
        ApplauseTallies other = new ApplauseTallies();
        x.loud(0, 9);
        due("of(0, 0) of another object", other.of(0, 0), 3);
    }

    private static void setting() {
        for (int setting = 0; setting < 6; setting++) {
            int what = setting;
            ApplauseTallies x = new ApplauseTallies();
            due("set(" + what + ", least)", x.set(what, LEAST[what]), FIRST[what]);
            due("count of it", x.count(13 + what), LEAST[what]);
            due("set(" + what + ", most)", x.set(what, MOST[what]), LEAST[what]);
            due("count of it", x.count(13 + what), MOST[what]);
            due("count of the next", x.count(13 + (what + 1) % 6), FIRST[(what + 1) % 6]);
            refused("set below the least", Checks::busy, y -> y.set(what, LEAST[what] - 1), BAD_VALUE);
            refused("set above the most", Checks::busy, y -> y.set(what, MOST[what] + 1), BAD_VALUE);
            undone("set to the same", Checks::busy, y -> y.set(what, y.count(13 + what)));
            undone("set to the most", Checks::busy, y -> y.set(what, MOST[what]));
        }
        for (int no : NO_SETTINGS) {
            refused("set(" + no + ", 5)", Checks::busy, y -> y.set(no, 5), BAD_VALUE);
        }
        // A lower ENCORE brings an encore with the next clap only, a higher one takes none back.
        ApplauseTallies x = made(y -> {
            y.ends(0);
            y.clap(1);
        });
        x.set(ENCORE, 20);
        due("count(4) before a clap", x.count(4), 0);
        x.clap(1);
        due("count(4) with a clap", x.count(4), 1);
        x.set(ENCORE, 900);
        due("count(4) with a higher ENCORE", x.count(4), 1);
    }

    private static void loudness() {
        ApplauseTallies x = new ApplauseTallies();
        due("loud(0, 1)", x.loud(0, 1), 3);
        due("loud(0, 9)", x.loud(0, 9), 1);
        due("loud(29, 9)", x.loud(29, 9), 3);
        due("of(0, 0)", x.of(0, 0), 9);
        due("of(1, 0)", x.of(1, 0), 3);
        for (int no : NO_SEATS) {
            refused("loud(" + no + ", 5)", Checks::busy, y -> y.loud(no, 5), NO_SUCH);
            refused("loud(" + no + ", 0)", Checks::busy, y -> y.loud(no, 0), NO_SUCH);
            refused("loud(0, " + no + ")", Checks::busy, y -> y.loud(0, no), BAD_VALUE);
        }
        refused("loud(0, 0)", Checks::busy, y -> y.loud(0, 0), BAD_VALUE);
        refused("loud(0, 10)", Checks::busy, y -> y.loud(0, 10), BAD_VALUE);
        undone("loud", Checks::busy, y -> y.loud(4, 9));
        undone("loud to the same", Checks::busy, y -> y.loud(4, 5));
    }

    private static void paying() {
        ApplauseTallies x = new ApplauseTallies();
        due("pay(0)", x.pay(0), 1);
        due("pay(29)", x.pay(29), 1 | 1 << 29);
        due("pay(5)", x.pay(5), 1 | 1 << 5 | 1 << 29);
        due("of(29, 1)", x.of(29, 1), 1);
        due("of(28, 1)", x.of(28, 1), 0);
        due("pay(0) again", x.pay(0), 1 << 5 | 1 << 29);
        due("of(0, 1)", x.of(0, 1), 0);
        due("count(10)", x.count(10), 1 << 5 | 1 << 29);
        for (int no : NO_SEATS) {
            refused("pay(" + no + ")", Checks::busy, y -> y.pay(no), NO_SUCH);
        }
        undone("pay", Checks::busy, y -> y.pay(9));
        undone("pay of the last one", y -> y.pay(3), y -> y.pay(3));
    }

    private static void ending() {
        ApplauseTallies x = new ApplauseTallies();
        due("ends(5)", x.ends(5), 0);
        due("count(9)", x.count(9), 5);
        due("performer(5, 3)", x.performer(5, 3), 1);
        x.clap(3);
        x.pass(4);
        due("count(8)", x.count(8), 4);
        due("ends(0)", x.ends(0), 21);
        due("count(0)", x.count(0), 0);
        due("count(8)", x.count(8), 0);
        due("count(9)", x.count(9), 0);
        due("of(3, 5)", x.of(3, 5), 0);
        due("of(3, 4) stays", x.of(3, 4), 1);
        due("clapper(0) stays", x.clapper(0), 3);
        due("performer(0, 3)", x.performer(0, 3), 1);
        // Each piece brings an encore of its own, and takes none back.
        x.set(ENCORE, 30);
        x.clap(3);
        x.ends(0);
        due("count(4) stays", x.count(4), 1);
        x.clap(3);
        due("count(4) for the next piece", x.count(4), 2);
        for (int no : NO_PERFORMERS) {
            refused("ends(" + no + ")", Checks::busy, y -> y.ends(no), NO_SUCH);
        }
        undone("ends", Checks::busy, y -> y.ends(5));
    }

    private static void clapping() {
        ApplauseTallies x = new ApplauseTallies();
        x.loud(2, 9);
        x.ends(4);
        due("clap(2)", x.clap(2), 90);
        due("clap(0)", x.clap(0), 120);
        due("clap(2)", x.clap(2), 210);
        due("of(2, 3): one first clap is early", x.of(2, 3), 1);
        due("of(2, 4)", x.of(2, 4), 2);
        due("of(2, 5)", x.of(2, 5), 1);
        due("of(2, 6)", x.of(2, 6), 2);
        due("count(3)", x.count(3), 3);
        due("owed(0, 0)", x.owed(0, 0), 4);
        due("clap(2)", x.clap(2), 300);
        due("count(4): one for each piece", x.count(4), 1);
        for (int no : NO_SEATS) {
            refused("clap(" + no + ")", Checks::busy, y -> y.clap(no), NO_SUCH);
            refused("clap(" + no + ") at first", y -> y.pay(1), y -> y.clap(no), NO_SUCH);
        }
        refused("clap(0) at first", y -> y.pay(1), y -> y.clap(0), NOT_POSSIBLE);
        refused("clap(0) in the next night", y -> {
            busy(y);
            y.night();
        }, y -> y.clap(0), NOT_POSSIBLE);
        undone("clap", Checks::busy, y -> y.clap(0));
        undone("clap that brings an encore", y -> {
            y.set(ENCORE, 30);
            y.ends(3);
        }, y -> y.clap(0));
        clapsEarlyOrLate();
        applauseAtItsMost();
        encoreAtItsEdge();
        encoreWithoutRoom();
    }

    private static void clapsEarlyOrLate() {
        for (int early = 0; early < 10; early++) {
            ApplauseTallies x = new ApplauseTallies();
            x.set(EARLY, early);
            x.ends(0);
            if (early > 0) {
                x.pass(early);
            }
            x.clap(0);
            x.pass(1);
            x.clap(1);
            x.clap(0);
            due("of(0, 3) at EARLY " + early, x.of(0, 3), 1);
            due("of(1, 3) behind EARLY " + early, x.of(1, 3), 0);
            x.ends(0);
            x.clap(0);
            due("of(0, 3) at the next piece", x.of(0, 3), 2);
        }
    }

    private static void applauseAtItsMost() {
        ApplauseTallies x = new ApplauseTallies();
        x.loud(0, 9);
        x.ends(0);
        fill(x, "c0*99;c0*12");
        due("carryOut()", x.carryOut(), 111);
        due("count(0)", x.count(0), 9990);
        due("clap(0)", x.clap(0), 9999);
        due("clap(0)", x.clap(0), 9999);
        due("of(0, 6)", x.of(0, 6), 113);
    }

    private static void encoreAtItsEdge() {
        ApplauseTallies x = new ApplauseTallies();
        x.set(ENCORE, 61);
        x.ends(0);
        x.clap(0);
        x.clap(1);
        due("count(4) below ENCORE", x.count(4), 0);
        x.set(ENCORE, 90);
        x.clap(2);
        due("count(4) at ENCORE", x.count(4), 1);
        // The encore that lapsed was owed for this piece: no other one comes.
        x.set(LAPSE, 1);
        x.pass(1);
        due("performer(0, 2)", x.performer(0, 2), 1);
        x.clap(1);
        due("count(4) behind a lapse", x.count(4), 0);
    }

    private static void encoreWithoutRoom() {
        ApplauseTallies x = made(Checks::fullHouse);
        due("count(4)", x.count(4), 8);
        x.ends(2);
        due("clapsFor(0) without room", x.clapsFor(0), 1);
        due("clap(0)", x.clap(0), 30);
        due("count(4) without room", x.count(4), 8);
        due("count(6)", x.count(6), 1);
        due("performer(2, 2)", x.performer(2, 2), 1);
        due("performer(2, 0)", x.performer(2, 0), 1);
        x.clap(0);
        due("count(6) behind a later clap", x.count(6), 1);
        x.set(LAPSE, 7);
        x.pass(1);
        due("count(6) behind lapses", x.count(6), 3);
        x.clap(0);
        due("count(4) with room again", x.count(4), 6);
        due("clapsFor(0) behind it", x.clapsFor(0), NOT_POSSIBLE);
        x.night();
        due("record(0, 2)", x.record(0, 2), 9);
    }

    private static void passing() {
        ApplauseTallies x = new ApplauseTallies();
        due("pass(99)", x.pass(99), 0);
        due("count(1)", x.count(1), 99);
        due("pass(1)", x.pass(1), 0);
        due("count(1)", x.count(1), 100);
        x.loud(0, 9);
        x.ends(0);
        x.clap(0);
        x.clap(0);
        due("pass(1) from 180", x.pass(1), 162);
        due("pass(2)", x.pass(2), 132);
        x.set(DECAY, 50);
        due("pass(1) with 50", x.pass(1), 66);
        x.set(DECAY, 1);
        due("pass(1): 1 at least", x.pass(1), 65);
        due("pass(64)", x.pass(64), 1);
        due("pass(1)", x.pass(1), 0);
        due("pass(1)", x.pass(1), 0);
        for (int no : new int[] {Integer.MIN_VALUE, -1, 0, 100, Integer.MAX_VALUE}) {
            refused("pass(" + no + ")", Checks::busy, y -> y.pass(no), BAD_VALUE);
        }
        undone("pass", Checks::busy, y -> y.pass(99));
        lapsing();
        timeAtItsMost();
    }

    /** The latest time lies behind what an object's first 512 calls can reach; the class keeps it all the same. */
    private static void timeAtItsMost() {
        ApplauseTallies x = new ApplauseTallies();
        for (int i = 0; i < 1010; i++) {
            x.pass(99);
        }
        due("count(1)", x.count(1), 99990);
        due("pass(10) at 99990", x.pass(10), NOT_POSSIBLE);
        due("pass(100) at 99990", x.pass(100), BAD_VALUE);
        due("count(1)", x.count(1), 99990);
        due("pass(9) at 99990", x.pass(9), 0);
        due("count(1)", x.count(1), 99999);
        due("pass(1) at 99999", x.pass(1), NOT_POSSIBLE);
    }

    private static void lapsing() {
        ApplauseTallies x = made(Checks::fullHouse);
        // The encores came at the times 0 to 7, and it is 7 now.
        x.set(LAPSE, 9);
        due("pass(1)", x.pass(1) >= 0 ? x.count(4) : -1, 8);
        due("pass(1)", x.pass(1) >= 0 ? x.count(4) : -1, 7);
        due("performer(0, 0)", x.performer(0, 0), 1);
        due("performer(0, 2)", x.performer(0, 2), 1);
        due("owed(0, 0)", x.owed(0, 0), 1);
        due("owed(0, 1)", x.owed(0, 1), 8);
        x.set(LAPSE, 5);
        due("count(4) before a second", x.count(4), 7);
        x.pass(1);
        due("count(4) with all that are due", x.count(4), 2);
        due("owed(0, 0)", x.owed(0, 0), 0);
        due("owed(0, 1)", x.owed(0, 1), 4);
        due("owed(1, 0)", x.owed(1, 0), 1);
        due("owed(1, 1)", x.owed(1, 1), 3);
        due("count(6)", x.count(6), 6);
        x.pass(2);
        due("count(4)", x.count(4), 0);
        due("performer(1, 2)", x.performer(1, 2), 2);
        x.night();
        due("record(0, 2)", x.record(0, 2), 8);
    }

    private static void playing() {
        ApplauseTallies x = made(Checks::fullHouse);
        x.pass(1);
        due("play(0)", x.play(0), 1);
        due("count(0)", x.count(0), 0);
        due("count(4)", x.count(4), 7);
        due("count(5)", x.count(5), 1);
        due("count(8)", x.count(8), 0);
        due("count(9)", x.count(9), 0);
        due("owed(0, 0)", x.owed(0, 0), 1);
        due("owed(5, 0): the later one of 0 stays", x.owed(5, 0), 0);
        due("owed(5, 1)", x.owed(5, 1), 2);
        due("owed(6, 0)", x.owed(6, 0), 1);
        due("owed(7, 0)", x.owed(7, 0), NO_SUCH);
        due("performer(0, 1)", x.performer(0, 1), 1);
        due("performer(0, 3)", x.performer(0, 3), 3);
        due("of(7, 5)", x.of(7, 5), 0);
        // An encore is a piece: a first clap can be early, and another encore comes.
        x.clap(7);
        due("of(7, 3)", x.of(7, 3), 9);
        due("owed(7, 0)", x.owed(7, 0), 0);
        due("play(3)", x.play(3), 0);
        due("play(3) again", x.play(3), NOT_POSSIBLE);
        due("performer(3, 2)", x.performer(3, 2), 0);
        for (int no : NO_PERFORMERS) {
            refused("play(" + no + ")", Checks::fullHouse, y -> y.play(no), NO_SUCH);
        }
        refused("play(0), none owed", Checks::busy, y -> y.play(0), NOT_POSSIBLE);
        undone("play", Checks::fullHouse, y -> y.play(4));
        x.night();
        due("record(0, 1)", x.record(0, 1), 2);
        due("count(5) stays", x.count(5), 2);
    }

    private static void curtainCall() {
        ApplauseTallies x = new ApplauseTallies();
        x.ends(0);
        x.clap(0);
        x.clap(0);
        x.set(CALL, 60);
        due("call() at CALL", x.call(), 30);
        due("count(0)", x.count(0), 30);
        due("count(7)", x.count(7), 1);
        due("call() below CALL", x.call(), NOT_POSSIBLE);
        x.set(CALL, 1);
        due("call()", x.call(), 15);
        due("call() is rounded down", x.call(), 7);
        due("call()", x.call(), 3);
        due("call()", x.call(), 1);
        due("call()", x.call(), 0);
        due("call() of 0", x.call(), NOT_POSSIBLE);
        due("count(7)", x.count(7), 6);
        due("of(0, 5) stays", x.of(0, 5), 1);
        refused("call() at first", y -> y.pay(1), ApplauseTallies::call, NOT_POSSIBLE);
        refused("call() below CALL", y -> {
            y.set(CALL, 31);
            y.ends(0);
            y.clap(0);
        }, ApplauseTallies::call, NOT_POSSIBLE);
        undone("call", Checks::busy, ApplauseTallies::call);
        x.night();
        due("count(7)", x.count(7), 0);
        due("record(0, 3)", x.record(0, 3), 6);
    }

    private static void nightEnds() {
        ApplauseTallies x = made(Checks::fullHouse);
        x.pay(7);
        x.ends(4);
        x.clap(3);
        x.clap(0);
        due("night()", x.night(), 8);
        due("of(0, 5)", x.of(0, 5), 0);
        due("of(0, 4)", x.of(0, 4), 0);
        due("count(0)", x.count(0), 0);
        due("count(1)", x.count(1), 7);
        due("count(2)", x.count(2), 1);
        due("count(3)", x.count(3), 0);
        due("count(4)", x.count(4), 0);
        due("count(6)", x.count(6), 9);
        due("count(8)", x.count(8), NONE);
        due("count(9)", x.count(9), NONE);
        due("count(10)", x.count(10), 1 << 7);
        due("of(7, 3)", x.of(7, 3), 8);
        due("of(7, 4)", x.of(7, 4), 0);
        due("of(7, 6)", x.of(7, 6), 8);
        due("of(3, 5)", x.of(3, 5), 0);
        due("clapper(0)", x.clapper(0), NO_SUCH);
        due("record(0, 0)", x.record(0, 0), 10);
        due("record(0, 2)", x.record(0, 2), 9);
        due("performer(0, 2)", x.performer(0, 2), 2);
        due("performer(4, 2)", x.performer(4, 2), 2);
        due("night() of nothing", x.night(), 0);
        due("record(0, 2)", x.record(0, 2), 0);
        due("record(1, 2)", x.record(1, 2), 9);
        due("count(2)", made(Checks::lastNight).count(2), 99);
        refused("night() behind 99", Checks::lastNight, ApplauseTallies::night, NOT_POSSIBLE);
        undone("night", Checks::busy, ApplauseTallies::night);
        undone("night of nothing", y -> y.night(), ApplauseTallies::night);
    }

    private static void writing() {
        ApplauseTallies x = new ApplauseTallies();
        due("write()", x.write(), 8);
        padIs(x, "c0e0l0k0");
        due("write() again", x.write(), 8);
        padIs(x, "c0e0l0k0");
        x.set(ENCORE, 20);
        x.ends(5);
        x.clap(0);
        x.ends(2);
        x.clap(0);
        x.ends(5);
        x.clap(0);
        fill(x, "c1*99");
        x.carryOut();
        x.call();
        fill(x, "long text that stands there");
        due("write()", x.write(), 18);
        padIs(x, "c102e0l0k1,2:1,5:2");
        x.play(5);
        x.set(LAPSE, 1);
        x.pass(1);
        x.write();
        padIs(x, "c102e1l2k1");
        x.night();
        x.write();
        padIs(x, "c0e0l0k0");
        x = made(Checks::fullHouse);
        x.write();
        padIs(x, "c8e0l0k0,0:2,1:2,2:1,3:1,4:1,5:1");
        x.ends(0);
        x.clap(1);
        x.write();
        padIs(x, "c9e0l1k0,0:2,1:2,2:1,3:1,4:1,5:1");
        quiet("write()", y -> {
            busy(y);
            y.wipe();
        }, y -> y.write() + y.wipe());
    }

    private static void aboutSeat() {
        ApplauseTallies x = new ApplauseTallies();
        x.set(FOUND, 2);
        x.loud(29, 7);
        x.pay(29);
        x.ends(0);
        x.clap(29);
        x.clap(29);
        due("of(29, 2) below FOUND", x.of(29, 2), 0);
        x.ends(0);
        x.clap(29);
        int[] wants = {7, 1, 1, 2, 3, 1, 3};
        for (int what = 0; what < 7; what++) {
            due("of(29, " + what + ")", x.of(29, what), wants[what]);
        }
        x.set(FOUND, 3);
        due("of(29, 2) with another FOUND", x.of(29, 2), 0);
        x.night();
        int[] next = {7, 1, 0, 2, 0, 0, 3};
        for (int what = 0; what < 7; what++) {
            due("of(29, " + what + ") in the next night", x.of(29, what), next[what]);
        }
        x.ends(1);
        x.pass(3);
        x.clap(29);
        due("of(29, 3) stays for a late one", x.of(29, 3), 2);
        due("of(29, 4)", x.of(29, 4), 1);
        due("of(29, 6)", x.of(29, 6), 4);
        for (int no : NO_SEATS) {
            refused("of(" + no + ", 0)", Checks::busy, y -> y.of(no, 0), NO_SUCH);
            refused("of(" + no + ", 7)", Checks::busy, y -> y.of(no, 7), NO_SUCH);
            refused("of(0, " + no + ")", Checks::busy, y -> y.of(0, no), BAD_VALUE);
        }
        refused("of(0, 7)", Checks::busy, y -> y.of(0, 7), BAD_VALUE);
    }

    private static void aboutPerformer() {
        ApplauseTallies x = made(Checks::fullHouse);
        x.play(1);
        x.set(LAPSE, 7);
        x.pass(1);
        int[][] wants = {{1, 0, 1, 2}, {1, 1, 0, 3}, {1, 0, 0, 1}, {1, 0, 0, 1}, {1, 0, 0, 1}, {1, 0, 0, 1}};
        for (int performer = 0; performer < 6; performer++) {
            for (int what = 0; what < 4; what++) {
                due("performer(" + performer + ", " + what + ")", x.performer(performer, what), wants[performer][what]);
            }
        }
        x.night();
        due("performer(1, 0)", x.performer(1, 0), 0);
        due("performer(1, 1) stays", x.performer(1, 1), 1);
        due("performer(0, 2) goes on", x.performer(0, 2), 2);
        due("performer(1, 3) stays", x.performer(1, 3), 3);
        for (int no : NO_PERFORMERS) {
            due("performer(" + no + ", 0)", x.performer(no, 0), NO_SUCH);
            due("performer(" + no + ", 4)", x.performer(no, 4), NO_SUCH);
            due("performer(5, " + no + ")", x.performer(5, no), BAD_VALUE);
        }
        due("performer(0, 4)", x.performer(0, 4), BAD_VALUE);
    }

    private static void owing() {
        ApplauseTallies x = made(Checks::fullHouse);
        for (int rank = 0; rank < 8; rank++) {
            due("owed(" + rank + ", 0)", x.owed(rank, 0), rank % 6);
            due("owed(" + rank + ", 1)", x.owed(rank, 1), 7 - rank);
        }
        for (int no : new int[] {Integer.MIN_VALUE, -1, 8, 9, Integer.MAX_VALUE}) {
            due("owed(" + no + ", 0)", x.owed(no, 0), NO_SUCH);
            due("owed(" + no + ", 2)", x.owed(no, 2), NO_SUCH);
        }
        for (int no : new int[] {Integer.MIN_VALUE, -1, 2, 3, Integer.MAX_VALUE}) {
            due("owed(7, " + no + ")", x.owed(7, no), BAD_VALUE);
        }
        x.play(5);
        due("owed(7, 0) with one less", x.owed(7, 0), NO_SUCH);
        due("owed(6, 0)", x.owed(6, 0), 1);
    }

    private static void clappers() {
        ApplauseTallies x = new ApplauseTallies();
        x.ends(0);
        for (int seat = 29; seat >= 0; seat--) {
            x.clap(seat);
            x.clap(29);
        }
        for (int rank = 0; rank < 30; rank++) {
            due("clapper(" + rank + ")", x.clapper(rank), 29 - rank);
        }
        for (int no : NO_SEATS) {
            due("clapper(" + no + ")", x.clapper(no), NO_SUCH);
        }
        x.ends(1);
        x.clap(4);
        due("clapper(0) is of the night, not of the piece", x.clapper(0), 29);
        x.night();
        due("clapper(0)", x.clapper(0), NO_SUCH);
        x.ends(1);
        x.clap(4);
        x.clap(2);
        x.clap(4);
        due("clapper(0)", x.clapper(0), 4);
        due("clapper(1)", x.clapper(1), 2);
        due("clapper(2)", x.clapper(2), NO_SUCH);
    }

    private static void recording() {
        ApplauseTallies x = new ApplauseTallies();
        x.set(ENCORE, 20);
        x.set(CALL, 1);
        for (int night = 1; night <= 8; night++) {
            x.ends(0);
            for (int clap = 0; clap < night; clap++) {
                x.clap(clap);
            }
            for (int curtain = 0; curtain < night % 3; curtain++) {
                x.call();
            }
            if (night % 2 == 0) {
                x.play(0);
            }
            due("night()", x.night(), night % 2);
            for (int rank = 0; rank < Math.min(night, 6); rank++) {
                int then = night - rank;
                due("record(" + rank + ", 0)", x.record(rank, 0), then);
                due("record(" + rank + ", 1)", x.record(rank, 1), (then + 1) % 2);
                due("record(" + rank + ", 2)", x.record(rank, 2), then % 2);
                due("record(" + rank + ", 3)", x.record(rank, 3), then % 3);
            }
            due("record(most, 0)", x.record(Math.min(night, 6), 0), NO_SUCH);
        }
        for (int no : new int[] {Integer.MIN_VALUE, -1, 6, 7, Integer.MAX_VALUE}) {
            due("record(" + no + ", 0)", x.record(no, 0), NO_SUCH);
            due("record(" + no + ", 4)", x.record(no, 4), NO_SUCH);
        }
        for (int no : new int[] {Integer.MIN_VALUE, -1, 4, Integer.MAX_VALUE}) {
            due("record(5, " + no + ")", x.record(5, no), BAD_VALUE);
        }
        x.undo();
        due("record(0, 0) behind undo()", x.record(0, 0), 7);
        due("record(5, 0) behind undo()", x.record(5, 0), 2);
    }

    private static void signs() {
        ApplauseTallies x = new ApplauseTallies();
        x.put(packed("!~A"));
        due("sign(0)", x.sign(0), 33);
        due("sign(1)", x.sign(1), 126);
        due("sign(2)", x.sign(2), 65);
        for (int no : new int[] {Integer.MIN_VALUE, -1, 3, 79, 80, 81, Integer.MAX_VALUE}) {
            due("sign(" + no + ")", x.sign(no), NO_SUCH);
        }
        fill(x, "x".repeat(79) + "z");
        due("sign(79)", x.sign(79), 'z');
        due("sign(80)", x.sign(80), NO_SUCH);
        x.wipe();
        due("sign(0)", x.sign(0), NO_SUCH);
    }

    private static void counting() {
        ApplauseTallies x = new ApplauseTallies();
        x.set(ENCORE, 40);
        x.set(FOUND, 1);
        x.pay(2);
        x.pay(3);
        x.pass(10);
        x.ends(4);
        x.clap(3);
        x.clap(6);
        x.pass(2);
        x.ends(1);
        x.clap(3);
        x.clap(3);
        x.play(4);
        x.pass(5);
        x.clap(1);
        x.clap(1);
        x.call();
        x.put(packed("abc"));
        int[] wants = {30, 17, 0, 6, 2, 1, 0, 1, 5, 4, 12, 72, 8, 10, 40, 60, 2, 1, 50, 3, 6};
        for (int what = 0; what < 21; what++) {
            due("count(" + what + ")", x.count(what), wants[what]);
        }
        x.night();
        int[] next = {0, 17, 1, 0, 0, 1, 2, 0, NONE, NONE, 12, 72, 8, 10, 40, 60, 2, 1, 50, 3, 6};
        for (int what = 0; what < 21; what++) {
            due("count(" + what + ") in the next night", x.count(what), next[what]);
        }
        for (int no : new int[] {Integer.MIN_VALUE, -1, 21, 22, Integer.MAX_VALUE}) {
            due("count(" + no + ")", x.count(no), BAD_VALUE);
        }
        ApplauseTallies y = new ApplauseTallies();
        for (int i = 0; i < 8; i++) {
            due("count(20)", y.count(20), Math.min(i, 6));
            y.pay(i);
        }
    }

    private static void quieting() {
        ApplauseTallies x = new ApplauseTallies();
        due("quietIn(0) of 0", x.quietIn(0), 0);
        x.loud(0, 9);
        x.ends(0);
        x.clap(0);
        x.clap(0);
        // 180, 162, 146, 132, 119, 108, 98
        due("quietIn(180)", x.quietIn(180), 0);
        due("quietIn(9999)", x.quietIn(9999), 0);
        due("quietIn(179)", x.quietIn(179), 1);
        due("quietIn(162)", x.quietIn(162), 1);
        due("quietIn(161)", x.quietIn(161), 2);
        due("quietIn(98)", x.quietIn(98), 6);
        due("quietIn(99)", x.quietIn(99), 6);
        due("quietIn(108)", x.quietIn(108), 5);
        x.set(DECAY, 50);
        // 180, 90, 45, 23, 12, 6, 3, 2, 1, 0
        due("quietIn(0)", x.quietIn(0), 9);
        due("quietIn(1)", x.quietIn(1), 8);
        x.set(DECAY, 1);
        due("quietIn(0)", x.quietIn(0), 180);
        for (int no : new int[] {Integer.MIN_VALUE, -1, 10000, Integer.MAX_VALUE}) {
            refused("quietIn(" + no + ")", Checks::busy, y -> y.quietIn(no), BAD_VALUE);
        }
        quiet("quietIn(0)", Checks::busy, y -> y.quietIn(0));
    }

    private static void clapsNeeded() {
        ApplauseTallies x = new ApplauseTallies();
        due("clapsFor(0) at first", x.clapsFor(0), NOT_POSSIBLE);
        x.ends(0);
        due("clapsFor(0)", x.clapsFor(0), 7);
        x.loud(0, 4);
        due("clapsFor(0) to the very ENCORE", x.clapsFor(0), 5);
        x.loud(0, 9);
        due("clapsFor(0)", x.clapsFor(0), 3);
        x.clap(0);
        due("clapsFor(0)", x.clapsFor(0), 2);
        x.set(ENCORE, 900);
        x.loud(1, 1);
        due("clapsFor(1)", x.clapsFor(1), 81);
        x.set(ENCORE, 121);
        due("clapsFor(1) with 31 missing", x.clapsFor(1), 4);
        x.set(ENCORE, 91);
        due("clapsFor(1) with 1 missing", x.clapsFor(1), 1);
        x.set(ENCORE, 101);
        due("clapsFor(1) with 11 missing", x.clapsFor(1), 2);
        x.set(ENCORE, 90);
        due("clapsFor(1) at ENCORE: it still takes a clap", x.clapsFor(1), 1);
        x.set(ENCORE, 20);
        due("clapsFor(1) above ENCORE", x.clapsFor(1), 1);
        x.clap(1);
        due("clapsFor(1) when one is owed", x.clapsFor(1), NOT_POSSIBLE);
        x.set(LAPSE, 1);
        x.pass(1);
        due("clapsFor(1) when one was owed", x.clapsFor(1), NOT_POSSIBLE);
        x.ends(3);
        due("clapsFor(1) for the next piece", x.clapsFor(1), 2);
        x.night();
        due("clapsFor(1) in the next night", x.clapsFor(1), NOT_POSSIBLE);
        for (int no : NO_SEATS) {
            refused("clapsFor(" + no + ")", Checks::busy, y -> y.clapsFor(no), NO_SUCH);
            due("clapsFor(" + no + ") at first", new ApplauseTallies().clapsFor(no), NO_SUCH);
        }
        quiet("clapsFor(0)", Checks::busy, y -> y.clapsFor(0));
    }

    private static void lapsesWhen() {
        ApplauseTallies x = made(Checks::fullHouse);
        due("lapsesIn(0): the earliest one", x.lapsesIn(0), 53);
        due("lapsesIn(1)", x.lapsesIn(1), 54);
        due("lapsesIn(5)", x.lapsesIn(5), 58);
        x.play(0);
        due("lapsesIn(0)", x.lapsesIn(0), 59);
        x.play(0);
        due("lapsesIn(0), none owed", x.lapsesIn(0), NONE);
        x.set(LAPSE, 3);
        due("lapsesIn(1) behind LAPSE", x.lapsesIn(1), 1);
        due("lapsesIn(5)", x.lapsesIn(5), 1);
        x.set(LAPSE, 300);
        due("lapsesIn(5)", x.lapsesIn(5), 298);
        for (int no : NO_PERFORMERS) {
            refused("lapsesIn(" + no + ")", Checks::busy, y -> y.lapsesIn(no), NO_SUCH);
        }
        quiet("lapsesIn(2)", Checks::busy, y -> y.lapsesIn(2));
    }

    private static void curtainsLeft() {
        ApplauseTallies x = new ApplauseTallies();
        due("calls() at first", x.calls(), 0);
        x.loud(0, 5);
        x.ends(0);
        x.clap(0);
        due("calls() at CALL", x.calls(), 1);
        x.set(CALL, 51);
        due("calls() below CALL", x.calls(), 0);
        x.set(CALL, 25);
        due("calls()", x.calls(), 2);
        x.set(CALL, 1);
        due("calls()", x.calls(), 6);
        x.call();
        due("calls() behind call()", x.calls(), 5);
        quiet("calls()", Checks::busy, ApplauseTallies::calls);
    }

    private static void foundOtherwise() {
        ApplauseTallies x = new ApplauseTallies();
        for (int piece = 0; piece < 10; piece++) {
            x.ends(0);
            for (int seat = 0; seat <= piece; seat++) {
                x.clap(29 - seat);
            }
        }
        ApplauseTallies ends = made(y -> carried(y, "e0;c0;c29"));
        due("ifFound(1) of the first and the last seat", ends.ifFound(1), 1 | 1 << 29);
        // Seat 29 has 10 early claps, 28 has 9, and so on.
        for (int found = 1; found < 10; found++) {
            int set = 0;
            for (int seat = 0; seat < 10; seat++) {
                set |= 10 - seat >= found ? 1 << 29 - seat : 0;
            }
            due("ifFound(" + found + ")", x.ifFound(found), set);
        }
        due("count(17) stays", x.count(17), 3);
        for (int no : new int[] {Integer.MIN_VALUE, -1, 0, 10, Integer.MAX_VALUE}) {
            refused("ifFound(" + no + ")", Checks::busy, y -> y.ifFound(no), BAD_VALUE);
        }
        quiet("ifFound(1)", Checks::busy, y -> y.ifFound(1));
    }

    private static void putting() {
        ApplauseTallies x = new ApplauseTallies();
        due("put of 1", x.put('c'), 1);
        due("put of 8", x.put(packed("!~345678")), 9);
        due("put of 3", x.put(packed("xyz")), 12);
        padIs(x, "c!~345678xyz");
        due("count(20)", x.count(20), 0);
        long[] bad = {0, 32, 127, 128, 255, 256, -1, Long.MIN_VALUE, Long.MAX_VALUE, packed("a") << 8,
            packed("a") << 16 | 'b', packed("a") << 56 | 'b', 1L << 56 | 'b', packed("ab") << 8,
            packed("ab cd"), packed("abcdefg") << 8, 200L << 56 | packed("abcdefg"), 1L << 8 | 'a'};
        for (long no : bad) {
            refused("put(" + no + ")", Checks::busy, y -> y.put(no), BAD_VALUE);
        }
        Script nearly = y -> fill(y, "y".repeat(78));
        refused("put of 3 to 78", nearly, y -> y.put(packed("abc")), TOO_MANY);
        refused("put of a bad one to 78", nearly, y -> y.put(packed("ab c")), BAD_VALUE);
        ApplauseTallies z = made(nearly);
        due("put of 2 to 78", z.put(packed("ab")), 80);
        due("put of 1 to 80", z.put('a'), TOO_MANY);
        due("put of none to 80", z.put(0), BAD_VALUE);
        padIs(z, "y".repeat(78) + "ab");
    }

    private static void wiping() {
        ApplauseTallies x = new ApplauseTallies();
        due("wipe()", x.wipe(), 0);
        x.put(packed("abc"));
        due("wipe()", x.wipe(), 3);
        due("count(19)", x.count(19), 0);
        due("wipe() again", x.wipe(), 0);
        fill(x, "y".repeat(80));
        due("wipe() of 80", x.wipe(), 80);
        due("count(20)", x.count(20), 0);
        due("put", x.put('k'), 1);
        padIs(x, "k");
    }

    private static void faultIs(String text, int want) {
        ApplauseTallies x = new ApplauseTallies();
        fill(x, text);
        due("fault() of " + text, x.fault(), want);
        padIs(x, text);
        due("count(20)", x.count(20), 0);
    }

    private static void faults() {
        String[] sound = {"e0", "e9", "c0", "c9", "c10", "c99", "c99*99", "c0*0", "c5*10", "w0", "w1", "w99", "p0", "p9",
            "k", "n", "h0", "h29", "h99", "k;n;k", "e1;c2*3;w4;p5;k;n;h6", "c1;c2", "c0;w0;h0;c0*0"};
        for (String text : sound) {
            faultIs(text, NONE);
            if (!text.endsWith(";k")) {
                faultIs(text + ";", text.length() + 1);
                faultIs(text + "x", text.length());
                faultIs(text + ";;", text.length() + 1);
            }
        }
        String[] broken = {"", "e", "c", "w", "p", "h", "c1*", "k;", "k;e"};
        for (String text : broken) {
            faultIs(text, text.length());
            faultIs(text + ";", text.length());
            faultIs(text + "K", text.length());
            faultIs(text + "*", text.length());
        }
        faultIs("e10", 2);
        faultIs("e19", 2);
        faultIs("p11", 2);
        faultIs("p00", 2);
        faultIs("e1*2", 2);
        faultIs("c00", 2);
        faultIs("c01", 2);
        faultIs("c100", 3);
        faultIs("c999;k", 3);
        faultIs("c1*01", 4);
        faultIs("c1*100", 5);
        faultIs("c1*2*3", 4);
        faultIs("c*2", 1);
        faultIs("w100", 3);
        faultIs("w5*2", 2);
        faultIs("h300", 3);
        faultIs("h05", 2);
        faultIs("k1", 1);
        faultIs("nk", 1);
        faultIs("0", 0);
        faultIs(";k", 0);
        faultIs("c-1", 1);
        faultIs("k;c1:2", 4);
        faultIs("k;".repeat(40), 80);
        faultIs("k;".repeat(39) + "kk", 79);
        faultIs("k;".repeat(39) + "e1", NONE);
        faultIs("k;".repeat(39) + "w", 79);
        ApplauseTallies x = new ApplauseTallies();
        x.write();
        due("fault() of a bill", x.fault(), 2);
        fill(x, "e5;k");
        fill(x, "e");
        due("fault() of e behind a longer text", x.fault(), 1);
        x.put(packed("1"));
        due("fault() of e1 behind a longer text", x.fault(), NONE);
    }

    private static void carrying() {
        ApplauseTallies x = new ApplauseTallies();
        due("carryOut()", carried(x, "h3;e2;c3*2;c4;w2;p2;k"), 6);
        due("count(0)", x.count(0), 73);
        due("count(1)", x.count(1), 2);
        due("count(3)", x.count(3), 3);
        due("count(10)", x.count(10), 8);
        due("count(19)", x.count(19), 0);
        due("count(20)", x.count(20), 1);
        eachOrder();
        firstErrors();
        refused("carryOut() with a fault", y -> {
            busy(y);
            fill(y, "e1;c1*");
        }, ApplauseTallies::carryOut, BAD_TEXT);
        refused("carryOut() of an empty pad", y -> {
            busy(y);
            y.wipe();
        }, ApplauseTallies::carryOut, BAD_TEXT);
        Script wiped = y -> {
            busy(y);
            y.wipe();
        };
        undone("carryOut", wiped, y -> carried(y, "e1;c2*9;w5;h7;n;e0;c5"));
        undone("carryOut of none", wiped, y -> carried(y, "w0;n"));
        // One change with all of them, and also if none is carried out.
        ApplauseTallies z = made(Checks::busy);
        z.undo();
        due("count(20)", z.count(20), 5);
        due("carryOut()", carried(z, "e1;n;e2;c5"), 4);
        due("count(20)", z.count(20), 6);
        due("undo()", z.undo(), 5);
        due("count(2)", z.count(2), 1);
        due("count(19): the pad stays empty", z.count(19), 0);
        due("carryOut() of none", carried(z, "w0;n"), 0);
        due("count(19)", z.count(19), 0);
        due("count(20)", z.count(20), 6);
        due("count(2)", z.count(2), 1);
    }

    private static void eachOrder() {
        same("e", y -> carried(y, "e3"), y -> y.ends(3));
        same("c", y -> {
            y.ends(1);
            carried(y, "c17");
        }, y -> {
            y.ends(1);
            y.clap(17);
        });
        same("c with a number", y -> {
            y.ends(1);
            carried(y, "c5*12");
        }, y -> {
            y.ends(1);
            carried(y, "c5;c5;c5;c5;c5;c5;c5;c5;c5;c5;c5;c5");
        });
        same("w", y -> {
            busy(y);
            carried(y, "w42");
        }, y -> {
            busy(y);
            y.wipe();
            y.pass(42);
        });
        same("p", y -> {
            fullHouse(y);
            carried(y, "p4");
        }, y -> {
            fullHouse(y);
            y.play(4);
        });
        same("k", y -> {
            busy(y);
            carried(y, "k");
        }, y -> {
            busy(y);
            y.wipe();
            y.call();
        });
        same("n", y -> {
            busy(y);
            carried(y, "n");
        }, y -> {
            busy(y);
            y.wipe();
            y.night();
        });
        same("h", y -> carried(y, "h29"), y -> y.pay(29));
    }

    private static void firstErrors() {
        ApplauseTallies x = new ApplauseTallies();
        due("carryOut() to e6", carried(x, "h1;e6;h2"), 1);
        due("carryOut() to c0", carried(x, "h2;c0*3;h3"), 1);
        due("carryOut() of no claps", carried(x, "c0*0;c99*0"), 0);
        due("carryOut() over no claps", carried(x, "h3;c0*0;h4"), 2);
        due("carryOut() to c30", carried(x, "e0;c30*2;h5"), 1);
        due("carryOut() to p0", carried(x, "p0;h5"), 0);
        due("carryOut() to k", carried(x, "h5;k;h6"), 1);
        due("carryOut() to h30", carried(x, "h30;h6"), 0);
        due("carryOut() to w0", carried(x, "e0;w0;h6"), 1);
        due("count(10)", x.count(10), 1 << 1 | 1 << 2 | 1 << 3 | 1 << 4 | 1 << 5);
        ApplauseTallies y = new ApplauseTallies();
        due("carryOut() of nights", carried(y, "n;".repeat(39) + "n"), 40);
        due("carryOut() of nights", carried(y, "n;".repeat(39) + "n"), 40);
        due("carryOut() of nights to the 99th", carried(y, "n;".repeat(39) + "n"), 19);
        due("count(2)", y.count(2), 99);
        due("carryOut() of seconds", carried(y, "w99;".repeat(19) + "w99"), 20);
        due("count(1)", y.count(1), 1980);
    }

    private static void undoing() {
        ApplauseTallies x = new ApplauseTallies();
        for (int i = 0; i < 9; i++) {
            x.pay(i);
        }
        x.put(packed("abc"));
        x.save(1);
        for (int i = 0; i < 6; i++) {
            due("undo()", x.undo(), 5 - i);
            due("count(10)", x.count(10), (1 << 8 - i) - 1);
            due("count(20)", x.count(20), 5 - i);
        }
        due("undo() of none", x.undo(), NOT_POSSIBLE);
        due("count(10): the oldest ones were dropped", x.count(10), 7);
        due("count(19): the pad stays", x.count(19), 3);
        due("pay(20)", x.pay(20), 7 | 1 << 20);
        due("undo()", x.undo(), 0);
        due("restore(1): the slot stays", x.restore(1), 0);
        due("count(10)", x.count(10), 511);
        due("undo() of restore()", x.undo(), 0);
        due("count(10)", x.count(10), 7);
        // A failed call between two changes records nothing, even where the ring is full.
        ApplauseTallies y = new ApplauseTallies();
        for (int i = 0; i < 13; i++) {
            y.pay(i);
            y.pay(30);
            y.set(0, 0);
        }
        for (int i = 0; i < 6; i++) {
            due("undo()", y.undo(), 5 - i);
        }
        due("count(10)", y.count(10), 127);
        refused("undo() of none", z -> z.put('a'), ApplauseTallies::undo, NOT_POSSIBLE);
        due("save(0) of a state behind undo()", y.save(0), 0);
        y.pay(7);
        y.restore(0);
        due("count(10)", y.count(10), 127);
    }

    private static void saving() {
        ApplauseTallies x = made(Checks::busy);
        due("save(1)", x.save(1), 1);
        x.night();
        due("save(1) over it", x.save(1), 2);
        x.night();
        due("restore(1)", x.restore(1), 2);
        due("restore(0) keeps its own", x.restore(0), 0);
        for (int no : new int[] {Integer.MIN_VALUE, -1, 2, Integer.MAX_VALUE}) {
            refused("save(" + no + ")", Checks::busy, y -> y.save(no), BAD_VALUE);
        }
        ApplauseTallies y = new ApplauseTallies();
        y.pay(1);
        y.save(0);
        due("count(20): save() is no change", y.count(20), 1);
        y.undo();
        due("restore(0): undo() leaves the slots", y.restore(0), 0);
        due("count(10)", y.count(10), 2);
        ApplauseTallies z = new ApplauseTallies();
        z.save(0);
        z.pay(3);
        due("restore(0)", z.restore(0), 0);
        due("count(10): what comes behind save() is not saved", z.count(10), 0);
    }

    private static void restoring() {
        sameNow("restore brings all back", PromiseTests::busyAndSaved, y -> {
            busyAndSaved(y);
            y.undo();
            fill(y, "e0;c1*3;w9;h2;n;e1;c2");
            y.carryOut();
            y.set(EARLY, 9);
            y.loud(8, 8);
            y.restore(0);
            y.put(packed("e3;c4"));
        });
        ApplauseTallies x = made(PromiseTests::busyAndSaved);
        x.night();
        x.put(packed("k"));
        due("restore(0)", x.restore(0), 1);
        due("count(20): restore() is a change", x.count(20), 6);
        due("count(19): the pad stays", x.count(19), 6);
        x.clap(3);
        due("restore(0) keeps its state", x.restore(0), 1);
        due("of(3, 6)", x.of(3, 6), 0);
        x.undo();
        due("of(3, 6) behind undo()", x.of(3, 6), 1);
        refused("restore(1) of nothing", Checks::busy, y -> y.restore(1), NOT_POSSIBLE);
        for (int no : new int[] {Integer.MIN_VALUE, -1, 2, Integer.MAX_VALUE}) {
            refused("restore(" + no + ")", Checks::busy, y -> y.restore(no), BAD_VALUE);
        }
        undone("restore", Checks::busy, y -> y.restore(0));
        undone("restore of the same", PromiseTests::busyAndSaved, y -> y.restore(0));
    }

    private static void busyAndSaved(ApplauseTallies x) {
        busy(x);
        x.save(0);
    }

    public static void main(String[] args) {
        Script[] promises = {x -> newObject(), x -> setting(), x -> loudness(), x -> paying(), x -> ending(),
            x -> clapping(), x -> passing(), x -> playing(), x -> curtainCall(), x -> nightEnds(), x -> writing(),
            x -> aboutSeat(), x -> aboutPerformer(), x -> owing(), x -> clappers(), x -> recording(), x -> signs(),
            x -> counting(), x -> quieting(), x -> clapsNeeded(), x -> lapsesWhen(), x -> curtainsLeft(),
            x -> foundOtherwise(), x -> putting(), x -> wiping(), x -> faults(), x -> carrying(), x -> undoing(),
            x -> saving(), x -> restoring()};
        for (int i = 0; i < promises.length; i++) {
            place = "promise " + (i + 1);
            promises[i].on(null);
        }
        System.out.println(right + " checks of " + promises.length + " promises right, " + wrong + " wrong");
        if (wrong != 0) {
            System.exit(1);
        }
    }
}
