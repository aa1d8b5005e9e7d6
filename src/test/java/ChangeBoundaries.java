/** The boundary cases that DOC.md names under the promises 1 to 11: a new object, and the changes. */
final class ChangeBoundaries extends Checks {
    private ChangeBoundaries() {
    }

    // ---- Promise 1: a new object

    @Says(in = "Promise 1", value = "Creates a house in its first night, at the time 0.")
    static void newHouse() {
        ApplauseTallies x = new ApplauseTallies();
        due("count(1)", x.count(1), 0);
        due("count(2)", x.count(2), 0);
        due("record(0, 0)", x.record(0, 0), NO_SUCH);
        due("count(3)", x.count(3), 0);
        due("count(4)", x.count(4), 0);
        due("count(9)", x.count(9), NONE);
        due("count(19)", x.count(19), 0);
        due("count(20)", x.count(20), 0);
        due("restore(0)", x.restore(0), NOT_POSSIBLE);
        due("restore(1)", x.restore(1), NOT_POSSIBLE);
        due("night() of the first one", x.night(), 0);
        due("count(2)", x.count(2), 1);
    }

    @Says(in = "Promise 1", value = "Creates a house in its first night, at the time 0.")
    static void newHouseBesideAnother() {
        same("a new object beside a later one", x -> { }, x -> busy(new ApplauseTallies()));
        ApplauseTallies earlier = made(Checks::busy);
        same("a new object beside an earlier one", x -> { }, x -> {
            earlier.pass(9);
            earlier.put('x');
        });
    }

    // ---- Promise 2: set

    @Says(in = "Promise 2", value = "Changes a setting. This is a change.")
    static void setIsAChange() {
        for (int setting = 0; setting < 6; setting++) {
            int what = setting;
            undone("set(" + what + ", the most)", Checks::busy, x -> x.set(what, MOST[what]));
            undone("set(" + what + ") to what it is", Checks::busy, x -> x.set(what, x.count(13 + what)));
            ApplauseTallies x = made(y -> y.set(what, MOST[what]));
            for (int other = 0; other < 6; other++) {
                due("count(" + (13 + other) + ") behind set(" + what + ")", x.count(13 + other),
                    other == what ? MOST[other] : FIRST[other]);
            }
        }
    }

    @Says(in = "Promise 2", value = "Returns the previous value")
    static void setReturnsThePrevious() {
        ApplauseTallies x = new ApplauseTallies();
        due("set(EARLY, 0) at first", x.set(EARLY, 0), 2);
        due("set(EARLY, 0) again", x.set(EARLY, 0), 0);
        due("set(EARLY, 9)", x.set(EARLY, 9), 0);
        due("set(EARLY, 10)", x.set(EARLY, 10), BAD_VALUE);
        due("set(EARLY, 1): a refused one is none", x.set(EARLY, 1), 9);
        x.undo();
        due("set(EARLY, 3) behind undo()", x.set(EARLY, 3), 9);
    }

    @Says(in = "Promise 2", value = "BAD_VALUE if there is no such setting")
    static void noSuchSetting() {
        for (int no : NO_SETTINGS) {
            refused("set(" + no + ", 5)", Checks::busy, x -> x.set(no, 5), BAD_VALUE);
        }
        due("set(5, 5)", new ApplauseTallies().set(5, 5), 50);
    }

    @Says(in = "Promise 2", value = "or the value is out of its range.")
    static void settingOutOfItsRange() {
        for (int setting = 0; setting < 6; setting++) {
            int what = setting;
            int[] outside = {Integer.MIN_VALUE, -1, LEAST[what] - 1, MOST[what] + 1, Integer.MAX_VALUE};
            for (int no : outside) {
                refused("set(" + what + ", " + no + ")", Checks::busy, x -> x.set(what, no), BAD_VALUE);
            }
            due("set to the least", made(x -> x.set(what, LEAST[what])).count(13 + what), LEAST[what]);
            due("set to the most", made(x -> x.set(what, MOST[what])).count(13 + what), MOST[what]);
        }
    }

    // ---- Promise 3: loud

    @Says(in = "Promise 3", value = {"Changes how loud a seat is. This is a change.", "`loudness`: 1 to 9"})
    static void loudIsAChange() {
        for (int loudness = 1; loudness <= 9; loudness++) {
            int value = loudness;
            undone("loud(4, " + value + ")", Checks::busy, x -> x.loud(4, value));
            due("of(4, 0)", made(x -> x.loud(4, value)).of(4, 0), value);
        }
        ApplauseTallies x = made(y -> y.loud(29, 9));
        due("of(28, 0): other seats stay", x.of(28, 0), 3);
        due("of(0, 0): other seats stay", x.of(0, 0), 3);
    }

    @Says(in = "Promise 3", value = "Returns the previous loudness")
    static void loudReturnsThePrevious() {
        ApplauseTallies x = new ApplauseTallies();
        due("loud(29, 1) at first", x.loud(29, 1), 3);
        due("loud(29, 1) again", x.loud(29, 1), 1);
        due("loud(29, 0)", x.loud(29, 0), BAD_VALUE);
        due("loud(29, 9): a refused one is none", x.loud(29, 9), 1);
        due("loud(0, 9)", x.loud(0, 9), 3);
    }

    @Says(in = "Promise 3", value = "NO_SUCH if there is no such seat")
    static void loudOfNoSeat() {
        for (int no : NO_SEATS) {
            refused("loud(" + no + ", 9)", Checks::busy, x -> x.loud(no, 9), NO_SUCH);
            refused("loud(" + no + ", 0)", Checks::busy, x -> x.loud(no, 0), NO_SUCH);
        }
    }

    @Says(in = "Promise 3", value = "BAD_VALUE if loudness is out of range.")
    static void loudOutOfRange() {
        for (int no : new int[] {Integer.MIN_VALUE, -1, 0, 10, 11, Integer.MAX_VALUE}) {
            refused("loud(0, " + no + ")", Checks::busy, x -> x.loud(0, no), BAD_VALUE);
            refused("loud(29, " + no + ")", Checks::busy, x -> x.loud(29, no), BAD_VALUE);
        }
    }

    // ---- Promise 4: pay

    @Says(in = "Promise 4", value = "Pays a seat for clapping, or not any more, if it is paid. This is a change.")
    static void payTwice() {
        ApplauseTallies x = new ApplauseTallies();
        for (int time = 0; time < 4; time++) {
            due("pay(29)", x.pay(29), time % 2 == 0 ? 1 << 29 : 0);
            due("of(29, 1)", x.of(29, 1), time % 2 == 0 ? 1 : 0);
        }
        undone("pay(9)", Checks::busy, y -> y.pay(9));
        undone("pay(0)", Checks::busy, y -> y.pay(0));
        undone("pay(3) of the last one that is paid", y -> y.pay(3), y -> y.pay(3));
    }

    @Says(in = "Promise 4", value = "Returns the seats that are paid then, as a set")
    static void paidSet() {
        ApplauseTallies x = new ApplauseTallies();
        for (int seat = 29; seat >= 0; seat--) {
            due("pay(" + seat + ")", x.pay(seat), ALL_SEATS ^ (1 << seat) - 1);
        }
        for (int seat = 0; seat < 30; seat++) {
            due("pay(" + seat + ") again", x.pay(seat), ALL_SEATS ^ (1 << seat + 1) - 1);
        }
        due("count(10) of none", x.count(10), 0);
    }

    @Says(in = "Promise 4", value = "NO_SUCH if there is no such seat.")
    static void payOfNoSeat() {
        for (int no : NO_SEATS) {
            refused("pay(" + no + ")", Checks::busy, x -> x.pay(no), NO_SUCH);
        }
    }

    // ---- Promise 5: ends

    @Says(in = "Promise 5", value = "A piece of a performer ends. This is a change.")
    static void endsIsAChange() {
        for (int performer = 0; performer < 6; performer++) {
            int who = performer;
            undone("ends(" + who + ")", Checks::busy, x -> x.ends(who));
            due("count(9)", made(x -> x.ends(who)).count(9), who);
            due("performer(" + who + ", 3)", made(x -> x.ends(who)).performer(who, 3), 1);
        }
        undone("ends(0) of the first piece", x -> { }, x -> x.ends(0));
        ApplauseTallies x = made(y -> {
            y.ends(3);
            y.ends(3);
        });
        due("performer(3, 3) of two that end at once", x.performer(3, 3), 2);
    }

    @Says(in = "Promise 5", value = "Returns the applause that there was")
    static void endsReturnsTheApplause() {
        ApplauseTallies x = new ApplauseTallies();
        due("ends(0) at first", x.ends(0), 0);
        due("ends(0) again", x.ends(0), 0);
        x.clap(0);
        due("ends(0) of 30", x.ends(0), 30);
        due("ends(5) of the most", made(Checks::loudest).ends(5), 9999);
        x.clap(0);
        x.night();
        due("ends(0) in the next night", x.ends(0), 0);
    }

    @Says(in = "Promise 5", value = "NO_SUCH if there is no such performer.")
    static void endsOfNoPerformer() {
        for (int no : NO_PERFORMERS) {
            refused("ends(" + no + ")", Checks::busy, x -> x.ends(no), NO_SUCH);
            refused("ends(" + no + ") at first", x -> { }, x -> x.ends(no), NO_SUCH);
        }
    }

    // ---- Promise 6: clap

    @Says(in = "Promise 6", value = "A seat claps. This is a change.")
    static void clapIsAChange() {
        undone("clap(0) again", Checks::busy, x -> x.clap(0));
        undone("clap(29) for the first time", Checks::busy, x -> x.clap(29));
        undone("clap(0) at the most", Checks::loudest, x -> x.clap(0));
        undone("clap(0) that brings an encore", x -> carried(x, "e0;c0*6"), x -> x.clap(0));
        undone("clap(0) that brings one without room", x -> {
            fullHouse(x);
            x.ends(4);
        }, x -> x.clap(0));
    }

    @Says(in = "Promise 6", value = "Returns the applause then")
    static void clapReturnsTheApplause() {
        ApplauseTallies x = made(y -> y.ends(0));
        due("clap(0)", x.clap(0), 30);
        due("clap(29)", x.clap(29), 60);
        due("clap(0) at the most", made(Checks::loudest).clap(0), 9999);
        due("clap(0) that brings one without room", made(y -> {
            fullHouse(y);
            y.ends(4);
        }).clap(0), 30);
    }

    @Says(in = "Promise 6", value = "NO_SUCH if there is no such seat")
    static void clapOfNoSeat() {
        for (int no : NO_SEATS) {
            refused("clap(" + no + ")", Checks::busy, x -> x.clap(no), NO_SUCH);
            refused("clap(" + no + ") at first", x -> { }, x -> x.clap(no), NO_SUCH);
        }
    }

    @Says(in = "Promise 6", value = "NOT_POSSIBLE if no piece has ended in this night.")
    static void clapBeforeAPiece() {
        refused("clap(0) at first", x -> { }, x -> x.clap(0), NOT_POSSIBLE);
        refused("clap(29) in the next night", x -> {
            busy(x);
            x.night();
        }, x -> x.clap(29), NOT_POSSIBLE);
        refused("clap(0) behind undo() of the piece", x -> {
            x.ends(0);
            x.undo();
        }, x -> x.clap(0), NOT_POSSIBLE);
        refused("clap(0) behind restore() of a state before the piece", x -> {
            x.save(1);
            x.ends(0);
            x.restore(1);
        }, x -> x.clap(0), NOT_POSSIBLE);
        due("clap(0) behind an encore", made(x -> {
            fullHouse(x);
            x.play(2);
        }).clap(0), 30);
    }

    // ---- Promise 7: pass

    @Says(in = "Promise 7", value = "Seconds pass. This is a change.")
    static void passIsAChange() {
        undone("pass(1)", Checks::busy, x -> x.pass(1));
        undone("pass(99) in which encores lapse", Checks::busy, x -> x.pass(99));
        undone("pass(1) of a new house", x -> { }, x -> x.pass(1));
    }

    @Says(in = "Promise 7", value = {"`seconds`: 1 to 99", "BAD_VALUE if seconds is out of range"})
    static void secondsInTheirRange() {
        for (int no : new int[] {Integer.MIN_VALUE, -99, -1, 0, 100, 101, Integer.MAX_VALUE}) {
            refused("pass(" + no + ")", Checks::busy, x -> x.pass(no), BAD_VALUE);
        }
        for (int seconds : new int[] {1, 2, 98, 99}) {
            ApplauseTallies x = new ApplauseTallies();
            due("pass(" + seconds + ")", x.pass(seconds), 0);
            due("count(1)", x.count(1), seconds);
        }
    }

    @Says(in = "Promise 7", value = "Returns the applause then")
    static void passReturnsTheApplause() {
        due("pass(1) of no applause", new ApplauseTallies().pass(1), 0);
        due("pass(1) of the most", made(Checks::loudest).pass(1), 9000);
        ApplauseTallies x = made(y -> carried(y, "e0;c0"));
        due("pass(99)", x.pass(99), 0);
        due("pass(99) seconds at once are as 99 times pass(1)", made(Checks::loudest).pass(99), made(y -> {
            loudest(y);
            for (int i = 0; i < 98; i++) {
                y.pass(1);
            }
        }).pass(1));
    }

    /** The latest time lies behind the 512 calls of an object: the answers are free there, and yet as the words say. */
    @Says(in = "Promise 7", value = "NOT_POSSIBLE if the time would be above 99999.")
    static void latestTime() {
        ApplauseTallies x = new ApplauseTallies();
        for (int i = 0; i < 1010; i++) {
            x.pass(99);
        }
        due("pass(10) at 99990", x.pass(10), NOT_POSSIBLE);
        due("pass(99) at 99990", x.pass(99), NOT_POSSIBLE);
        due("pass(100) at 99990", x.pass(100), BAD_VALUE);
        due("carryOut() of w10 at 99990", carried(x, "w10"), 0);
        due("count(1)", x.count(1), 99990);
        due("pass(9) at 99990", x.pass(9), 0);
        due("count(1)", x.count(1), 99999);
        due("pass(1) at 99999", x.pass(1), NOT_POSSIBLE);
        due("count(1)", x.count(1), 99999);
    }

    // ---- Promise 8: play

    @Says(in = "Promise 8", value = "Plays an encore. This is a change.")
    static void playIsAChange() {
        undone("play(0), the first in the order", Checks::fullHouse, x -> x.play(0));
        undone("play(5), in the midst of the order", Checks::fullHouse, x -> x.play(5));
        undone("play(2), the only one", x -> {
            x.set(ENCORE, 20);
            x.ends(2);
            x.clap(0);
        }, x -> x.play(2));
    }

    @Says(in = "Promise 8", value = "Returns how many encores the performer owes then")
    static void playReturnsWhatIsOwed() {
        ApplauseTallies x = made(Checks::fullHouse);
        due("play(5), one owed", x.play(5), 0);
        due("play(0), two owed", x.play(0), 1);
        due("play(0), one owed", x.play(0), 0);
        ApplauseTallies y = made(z -> z.set(ENCORE, 20));
        carried(y, "e3;c0;e3;c0;e3;c0;e3;c0;e3;c0;e3;c0;e3;c0;e3;c0");
        for (int left = 7; left >= 0; left--) {
            due("play(3), all eight of 3", y.play(3), left);
        }
        due("play(3), none owed", y.play(3), NOT_POSSIBLE);
    }

    @Says(in = "Promise 8", value = "NO_SUCH if there is no such performer")
    static void playOfNoPerformer() {
        for (int no : NO_PERFORMERS) {
            refused("play(" + no + ")", Checks::fullHouse, x -> x.play(no), NO_SUCH);
            refused("play(" + no + ") at first", x -> { }, x -> x.play(no), NO_SUCH);
        }
    }

    @Says(in = "Promise 8", value = "NOT_POSSIBLE if none is owed.")
    static void playOfNone() {
        refused("play(0) at first", x -> { }, x -> x.play(0), NOT_POSSIBLE);
        refused("play(0), others owe", Checks::busy, x -> x.play(0), NOT_POSSIBLE);
        refused("play(3), played already", x -> {
            fullHouse(x);
            x.play(3);
        }, x -> x.play(3), NOT_POSSIBLE);
        refused("play(2), lapsed", x -> {
            fullHouse(x);
            x.pass(60);
        }, x -> x.play(2), NOT_POSSIBLE);
        refused("play(2) in the next night", x -> {
            fullHouse(x);
            x.night();
        }, x -> x.play(2), NOT_POSSIBLE);
    }

    // ---- Promise 9: call

    @Says(in = "Promise 9", value = "A curtain call. This is a change.")
    static void callIsAChange() {
        undone("call() of 80", Checks::busy, ApplauseTallies::call);
        undone("call() of the most", Checks::loudest, ApplauseTallies::call);
    }

    @Says(in = "Promise 9", value = "Returns the applause then")
    static void callReturnsTheApplause() {
        due("call() of the most", made(Checks::loudest).call(), 4999);
        due("call() of 1", made(x -> {
            x.set(CALL, 1);
            x.loud(0, 1);
            x.ends(0);
            x.clap(0);
            x.pass(9);
        }).call(), 0);
    }

    @Says(in = "Promise 9", value = "NOT_POSSIBLE if it is less than CALL.")
    static void callBelowCall() {
        refused("call() at first", x -> { }, ApplauseTallies::call, NOT_POSSIBLE);
        refused("call() of 0 at 1", x -> x.set(CALL, 1), ApplauseTallies::call, NOT_POSSIBLE);
        refused("call() of 80 at 81", x -> {
            busy(x);
            x.set(CALL, 81);
        }, ApplauseTallies::call, NOT_POSSIBLE);
        due("call() of 80 at 80", made(x -> {
            busy(x);
            x.set(CALL, 80);
        }).call(), 40);
        refused("call() in the next night", x -> {
            busy(x);
            x.night();
        }, ApplauseTallies::call, NOT_POSSIBLE);
    }

    // ---- Promise 10: night

    @Says(in = "Promise 10", value = "The night ends. This is a change.")
    static void nightIsAChange() {
        undone("night()", Checks::busy, ApplauseTallies::night);
        undone("night() with eight encores owed", Checks::fullHouse, ApplauseTallies::night);
        undone("night() of a new house", x -> { }, ApplauseTallies::night);
    }

    @Says(in = "Promise 10", value = "Returns how many encores lapse by that")
    static void nightReturnsWhatLapses() {
        due("night(), none owed", new ApplauseTallies().night(), 0);
        due("night(), eight owed", made(Checks::fullHouse).night(), 8);
        ApplauseTallies x = made(Checks::fullHouse);
        x.set(LAPSE, 3);
        x.pass(1);
        x.play(1);
        due("night() behind six that lapsed and one that was played", x.night(), 1);
        due("record(0, 2): all that lapsed in the night", x.record(0, 2), 7);
    }

    @Says(in = "Promise 10", value = "NOT_POSSIBLE if 99 nights ended.")
    static void lastNightOfAll() {
        ApplauseTallies x = new ApplauseTallies();
        for (int night = 1; night <= 99; night++) {
            due("night() of the " + night + "th", x.night(), 0);
        }
        due("night() behind 99", x.night(), NOT_POSSIBLE);
        due("count(2)", x.count(2), 99);
        due("carryOut() of n behind 99", carried(x, "n"), 0);
        x.ends(0);
        due("clap(0) in the hundredth night", x.clap(0), 30);
        refused("night() behind 99", Checks::lastNight, ApplauseTallies::night, NOT_POSSIBLE);
        x.undo();
        x.undo();
        x.undo();
        due("undo() of the 99th", x.undo(), 2);
        due("night() behind 98", x.night(), 0);
        due("night() behind 99", x.night(), NOT_POSSIBLE);
    }

    // ---- Promise 11: write

    @Says(in = "Promise 11", value = "Writes the bill of the night so far into the pad, in place of what was there.")
    static void writesInPlace() {
        ApplauseTallies x = new ApplauseTallies();
        due("write() into an empty pad", x.write(), 8);
        padIs(x, "c0e0l0k0");
        due("write() over a bill", x.write(), 8);
        padIs(x, "c0e0l0k0");
        fill(x, "x".repeat(80));
        due("write() over a full pad", x.write(), 8);
        padIs(x, "c0e0l0k0");
        due("sign(8): nothing is left behind it", x.sign(8), NO_SUCH);
        due("put() behind a bill", x.put('x'), 9);
        padIs(x, "c0e0l0k0x");
        fill(x, "k");
        due("write() over a shorter text", x.write(), 8);
        padIs(x, "c0e0l0k0");
    }

    @Says(in = "Promise 11", value = "This is not a change.")
    static void writeIsNoChange() {
        quiet("write()", x -> {
            busy(x);
            x.write();
        }, ApplauseTallies::write);
        ApplauseTallies x = made(y -> y.pay(3));
        x.write();
        due("count(20)", x.count(20), 1);
        due("undo() behind write() is of pay(3)", x.undo(), 0);
        due("count(10)", x.count(10), 0);
        padIs(x, "c0e0l0k0");
    }

    @Says(in = "Promise 11", value = "Returns the length of the pad then.")
    static void writeReturnsTheLength() {
        due("write() of nothing", new ApplauseTallies().write(), 8);
        due("write() of all six performers", made(Checks::fullHouse).write(), 8 + 6 * 4);
        due("write() of numbers with three digits", made(x -> {
            x.set(CALL, 1);
            loudest(x);
            carried(x, "k;k;k;k;k;k;k;k;k;k");
        }).write(), 8 + 2 + 1 + 4);
    }
}
