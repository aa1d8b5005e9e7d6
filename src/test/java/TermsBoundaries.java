/** The boundary cases that DOC.md names under "What it is", "Terms", "Settings", "Seconds" and "Nights". */
final class TermsBoundaries extends Checks {
    private TermsBoundaries() {
    }

    // ---- What it is

    /** A piece has ended and a seat has clapped: 511 calls, so that the next one is the last. */
    private static void before512(ApplauseTallies x) {
        x.ends(0);
        for (int i = 0; i < 510; i++) {
            x.clap(0);
        }
    }

    private static void the512th(String call, Call asked, int want) {
        due("the 512th call, " + call, asked.on(made(TermsBoundaries::before512)), want);
    }

    @Says(in = "What it is", value = "An object is used for at most 512 calls after it has been made")
    static void lastCallsThatChange() {
        the512th("set(0, 50)", x -> x.set(0, 50), 10);
        the512th("loud(29, 9)", x -> x.loud(29, 9), 3);
        the512th("pay(29)", x -> x.pay(29), 1 << 29);
        the512th("ends(5)", x -> x.ends(5), 9999);
        the512th("clap(29)", x -> x.clap(29), 9999);
        the512th("pass(1)", x -> x.pass(1), 9000);
        the512th("play(0)", x -> x.play(0), 0);
        the512th("call()", ApplauseTallies::call, 4999);
        the512th("night()", ApplauseTallies::night, 1);
        the512th("write()", ApplauseTallies::write, 14);
        the512th("put('k')", x -> x.put('k'), 1);
        the512th("wipe()", ApplauseTallies::wipe, 0);
        the512th("carryOut()", ApplauseTallies::carryOut, BAD_TEXT);
        the512th("undo()", ApplauseTallies::undo, 5);
        the512th("save(1)", x -> x.save(1), 0);
        the512th("restore(0)", x -> x.restore(0), NOT_POSSIBLE);
    }

    @Says(in = "What it is", value = "An object is used for at most 512 calls after it has been made")
    static void lastCallsThatTell() {
        the512th("of(0, 6)", x -> x.of(0, 6), 510);
        the512th("performer(0, 0)", x -> x.performer(0, 0), 1);
        the512th("owed(0, 1)", x -> x.owed(0, 1), 0);
        the512th("clapper(0)", x -> x.clapper(0), 0);
        the512th("record(0, 0)", x -> x.record(0, 0), NO_SUCH);
        the512th("sign(0)", x -> x.sign(0), NO_SUCH);
        the512th("count(3)", x -> x.count(3), 510);
        the512th("quietIn(9000)", x -> x.quietIn(9000), 1);
        the512th("clapsFor(0)", x -> x.clapsFor(0), NOT_POSSIBLE);
        the512th("lapsesIn(0)", x -> x.lapsesIn(0), 60);
        the512th("calls()", ApplauseTallies::calls, 8);
        the512th("ifFound(1)", x -> x.ifFound(1), 1);
        the512th("fault()", ApplauseTallies::fault, 0);
    }

    /** What later calls answer is free: here they have only to come back. */
    @Says(in = "What it is", value = "what later calls answer is free")
    static void laterCallsComeBack() {
        ApplauseTallies x = made(TermsBoundaries::before512);
        for (int i = 0; i < 2000; i++) {
            x.ends(i % 6);
            carried(x, "c0*99;c1*99;w99;c2*99;n;h1;e1;k");
            x.save(i % 2);
            x.write();
            x.put(packed("12345678"));
            if (i % 7 == 0) {
                x.undo();
            }
        }
        due("count(2), at most 99", x.count(2), 99);
    }

    // ---- Terms: conventions

    @Says(in = "Terms", value = "A method that fails returns one of the error codes NO_SUCH (-1), BAD_VALUE (-2), "
        + "BAD_TEXT (-3), TOO_MANY (-4) and NOT_POSSIBLE (-5)")
    @Says(in = "Terms", value = "NONE (-6)")
    @Says(in = "Texts", value = "`NO_SUCH = -1, BAD_VALUE = -2, BAD_TEXT = -3, TOO_MANY = -4, NOT_POSSIBLE = -5, NONE = -6`")
    static void codes() {
        due("NO_SUCH", ApplauseTallies.NO_SUCH, -1);
        due("BAD_VALUE", ApplauseTallies.BAD_VALUE, -2);
        due("BAD_TEXT", ApplauseTallies.BAD_TEXT, -3);
        due("TOO_MANY", ApplauseTallies.TOO_MANY, -4);
        due("NOT_POSSIBLE", ApplauseTallies.NOT_POSSIBLE, -5);
        due("NONE", ApplauseTallies.NONE, -6);
        ApplauseTallies x = made(y -> fill(y, "x".repeat(80)));
        due("clap(30)", x.clap(30), -1);
        due("set(0, 0)", x.set(0, 0), -2);
        due("carryOut()", x.carryOut(), -3);
        due("put('x')", x.put('x'), -4);
        due("clap(0)", x.clap(0), -5);
        due("lapsesIn(0)", x.lapsesIn(0), -6);
    }

    @Says(in = "Texts", value = "`DECAY = 0, ENCORE = 1, LAPSE = 2, EARLY = 3, FOUND = 4, CALL = 5`: Settings.")
    static void settingsByName() {
        int[] names = {ApplauseTallies.DECAY, ApplauseTallies.ENCORE, ApplauseTallies.LAPSE, ApplauseTallies.EARLY,
            ApplauseTallies.FOUND, ApplauseTallies.CALL};
        for (int setting = 0; setting < 6; setting++) {
            due("the setting " + setting, names[setting], setting);
            due("set() of it to its most", new ApplauseTallies().set(names[setting], MOST[setting]), FIRST[setting]);
        }
    }

    @Says(in = "Terms", value = "it names its errors in the order in which they are checked, and the first one that "
        + "applies is returned.")
    static void firstErrorThatApplies() {
        ApplauseTallies x = made(y -> fill(y, "x".repeat(80)));
        due("loud(30, 10): the seat first", x.loud(30, 10), NO_SUCH);
        due("clap(30) before a piece: the seat first", x.clap(30), NO_SUCH);
        due("clapsFor(30) before a piece: the seat first", x.clapsFor(30), NO_SUCH);
        due("play(6), none owed: the performer first", x.play(6), NO_SUCH);
        due("lapsesIn(6), none owed: the performer first", x.lapsesIn(6), NO_SUCH);
        due("of(30, 7): the seat first", x.of(30, 7), NO_SUCH);
        due("performer(6, 4): the performer first", x.performer(6, 4), NO_SUCH);
        due("owed(0, 2): the rank first", x.owed(0, 2), NO_SUCH);
        due("record(0, 4): the rank first", x.record(0, 4), NO_SUCH);
        due("put(32) to a full pad: the code first", x.put(32), BAD_VALUE);
        due("put(0) to a full pad: the number first", x.put(0), BAD_VALUE);
        due("put() of a hole to a full pad: the bit first", x.put(1L << 62 | 'x'), BAD_VALUE);
        due("restore(2), nothing saved: the slot first", x.restore(2), BAD_VALUE);
        due("set(6, 0)", x.set(6, 0), BAD_VALUE);
    }

    /** A house with all six states of its history, something in its pad and in a slot. */
    private static void refuse(String call, Call asked, int error) {
        refused(call, Checks::busy, asked, error);
        due("count(20) of a new object behind " + call, made(asked::on).count(20), 0);
    }

    @Says(in = "Terms", value = "A call that returns an error changes nothing.")
    static void errorsOfChangesChangeNothing() {
        refuse("set(6, 5)", x -> x.set(6, 5), BAD_VALUE);
        refuse("set(ENCORE, 19)", x -> x.set(ENCORE, 19), BAD_VALUE);
        refuse("loud(30, 5)", x -> x.loud(30, 5), NO_SUCH);
        refuse("loud(4, 10)", x -> x.loud(4, 10), BAD_VALUE);
        refuse("pay(30)", x -> x.pay(30), NO_SUCH);
        refuse("ends(6)", x -> x.ends(6), NO_SUCH);
        refuse("clap(30)", x -> x.clap(30), NO_SUCH);
        refused("clap(4) before a piece", x -> x.pay(9), x -> x.clap(4), NOT_POSSIBLE);
        refuse("pass(100)", x -> x.pass(100), BAD_VALUE);
        refuse("play(6)", x -> x.play(6), NO_SUCH);
        refused("play(4), others owe", Checks::busy, x -> x.play(4), NOT_POSSIBLE);
        refused("call() below CALL", x -> {
            busy(x);
            x.set(CALL, 900);
        }, ApplauseTallies::call, NOT_POSSIBLE);
        refused("night() behind 99", Checks::lastNight, ApplauseTallies::night, NOT_POSSIBLE);
        refuse("put(32)", x -> x.put(32), BAD_VALUE);
        refused("put() to a full pad", x -> fill(x, "x".repeat(80)), x -> x.put('x'), TOO_MANY);
        refused("put() of two to 79", x -> fill(x, "x".repeat(79)), x -> x.put(packed("ab")), TOO_MANY);
        refused("carryOut() with a fault", x -> {
            busy(x);
            x.put('*');
        }, ApplauseTallies::carryOut, BAD_TEXT);
        refused("undo() of none", x -> x.put('x'), ApplauseTallies::undo, NOT_POSSIBLE);
        refuse("save(2)", x -> x.save(2), BAD_VALUE);
        refuse("restore(2)", x -> x.restore(2), BAD_VALUE);
        refuse("restore(1) of nothing", x -> x.restore(1), NOT_POSSIBLE);
    }

    @Says(in = "Terms", value = "A call that returns an error changes nothing.")
    static void errorsOfTellingsChangeNothing() {
        refuse("of(30, 0)", x -> x.of(30, 0), NO_SUCH);
        refuse("of(0, 7)", x -> x.of(0, 7), BAD_VALUE);
        refuse("performer(6, 0)", x -> x.performer(6, 0), NO_SUCH);
        refuse("performer(0, 4)", x -> x.performer(0, 4), BAD_VALUE);
        refuse("owed(8, 0)", x -> x.owed(8, 0), NO_SUCH);
        refused("owed(0, 2)", Checks::busy, x -> x.owed(0, 2), BAD_VALUE);
        refuse("clapper(30)", x -> x.clapper(30), NO_SUCH);
        refuse("record(6, 0)", x -> x.record(6, 0), NO_SUCH);
        refused("record(0, 4)", Checks::busy, x -> x.record(0, 4), BAD_VALUE);
        refuse("sign(80)", x -> x.sign(80), NO_SUCH);
        refuse("count(21)", x -> x.count(21), BAD_VALUE);
        refuse("quietIn(10000)", x -> x.quietIn(10000), BAD_VALUE);
        refuse("clapsFor(30)", x -> x.clapsFor(30), NO_SUCH);
        refused("clapsFor(0) before a piece", x -> x.pay(9), x -> x.clapsFor(0), NOT_POSSIBLE);
        refuse("lapsesIn(6)", x -> x.lapsesIn(6), NO_SUCH);
        refuse("ifFound(0)", x -> x.ifFound(0), BAD_VALUE);
    }

    @Says(in = "Terms", value = {"NONE (-6) is not an error; it is returned only if no error applies."})
    static void noneOnlyWithoutError() {
        ApplauseTallies x = new ApplauseTallies();
        due("lapsesIn(0), none owed", x.lapsesIn(0), NONE);
        due("lapsesIn(5), none owed", x.lapsesIn(5), NONE);
        due("lapsesIn(6), none owed", x.lapsesIn(6), NO_SUCH);
        due("lapsesIn(-1), none owed", x.lapsesIn(-1), NO_SUCH);
        due("lapsesIn(-6), none owed", x.lapsesIn(-6), NO_SUCH);
        due("count(8) before a piece", x.count(8), NONE);
        due("count(9) before a piece", x.count(9), NONE);
        due("count(21)", x.count(21), BAD_VALUE);
        due("count(-6)", x.count(-6), BAD_VALUE);
    }

    @Says(in = "Terms", value = "Everything is numbered from 0.")
    static void numberedFromZero() {
        ApplauseTallies x = new ApplauseTallies();
        due("set(0, 11)", x.set(0, 11), 10);
        due("count(13)", x.count(13), 11);
        due("pay(0)", x.pay(0), 1);
        x.loud(0, 9);
        x.ends(0);
        x.clap(0);
        x.clap(0);
        x.clap(0);
        due("of(0, 0)", x.of(0, 0), 9);
        due("clapper(0)", x.clapper(0), 0);
        due("owed(0, 0)", x.owed(0, 0), 0);
        due("performer(0, 0)", x.performer(0, 0), 1);
        due("count(0)", x.count(0), 270);
        x.put(packed("n"));
        due("sign(0)", x.sign(0), 'n');
        due("save(0)", x.save(0), 0);
        x.carryOut();
        due("record(0, 0)", x.record(0, 0), 3);
        due("restore(0)", x.restore(0), 0);
    }

    @Says(in = "Terms", value = "Divisions are rounded down.")
    static void roundedDown() {
        ApplauseTallies x = new ApplauseTallies();
        x.set(DECAY, 1);
        x.ends(0);
        carried(x, "c0*6;c0");
        due("pass(1) from 210 takes 2", x.pass(1), 208);
        due("pass(5) from 208 takes 2 each, the last time from 200", x.pass(5), 198);
        x.set(DECAY, 50);
        due("pass(1) from 198", x.pass(1), 99);
        due("pass(1) from 99 takes 49", x.pass(1), 50);
        due("call() of 50", x.call(), 25);
        x.set(CALL, 1);
        due("call() of 25", x.call(), 12);
        due("call() of 12, 6 and 3", x.call() + x.call() + x.call(), 6 + 3 + 1);
        due("call() of 1", x.call(), 0);
    }

    @Says(in = "Terms", value = "Sets of seats and performers are bit masks.")
    static void setsAreMasks() {
        ApplauseTallies x = new ApplauseTallies();
        x.set(FOUND, 1);
        x.ends(0);
        int all = 0;
        for (int seat = 0; seat < 30; seat++) {
            all |= 1 << seat;
            due("pay(" + seat + ")", x.pay(seat), all);
            x.clap(seat);
            due("count(11) with " + seat, x.count(11), all);
        }
        due("count(10) of all seats", x.count(10), 0x3FFFFFFF);
        due("count(12) of all seats", x.count(12), 0x3FFFFFFF);
        due("ifFound(1) of all seats", x.ifFound(1), 0x3FFFFFFF);
        due("ifFound(2) of none", x.ifFound(2), 0);
    }

    // ---- Settings

    private static void range(int setting) {
        ApplauseTallies x = new ApplauseTallies();
        due("count(" + (13 + setting) + ") at first", x.count(13 + setting), FIRST[setting]);
        due("set(" + setting + ", the least)", x.set(setting, LEAST[setting]), FIRST[setting]);
        due("set(" + setting + ", the most)", x.set(setting, MOST[setting]), LEAST[setting]);
        int[] outside = {LEAST[setting] - 1, MOST[setting] + 1, -1, Integer.MIN_VALUE, Integer.MAX_VALUE};
        for (int value : outside) {
            due("set(" + setting + ", " + value + ")", x.set(setting, value), BAD_VALUE);
            due("count(" + (13 + setting) + ") behind it", x.count(13 + setting), MOST[setting]);
        }
    }

    private static ApplauseTallies with(int setting, int value) {
        return made(x -> x.set(setting, value));
    }

    /** Both ends of a range have to be in force, too, not only to be taken. */
    @Says(in = "Settings", value = "DECAY (1 to 50; 10): hundredths of the applause that go in a second")
    static void rangeOfDecay() {
        range(DECAY);
        int[][] cases = {{1, 297}, {50, 150}, {10, 270}};
        for (int[] one : cases) {
            ApplauseTallies x = with(DECAY, one[0]);
            x.ends(0);
            carried(x, "c0*10");
            due("pass(1) from 300 at " + one[0], x.pass(1), one[1]);
        }
    }

    @Says(in = "Settings", value = "ENCORE (20 to 900; 200): applause by which an encore is owed")
    static void rangeOfEncore() {
        range(ENCORE);
        int[][] cases = {{20, 1}, {900, 89}, {200, 19}};
        for (int[] one : cases) {
            ApplauseTallies x = with(ENCORE, one[0]);
            x.loud(0, 1);
            x.ends(0);
            carried(x, "c0*" + one[1]);
            due("count(4) below " + one[0], x.count(4), 0);
            due("clap(0) to " + one[0], x.clap(0), one[0]);
            due("count(4) at " + one[0], x.count(4), 1);
        }
    }

    @Says(in = "Settings", value = "LAPSE (1 to 300; 60): seconds behind which it lapses")
    static void rangeOfLapse() {
        range(LAPSE);
        for (int lapse : new int[] {1, 300, 60}) {
            ApplauseTallies x = with(LAPSE, lapse);
            x.ends(0);
            carried(x, "c0*7");
            for (int second = 1; second < lapse; second++) {
                x.pass(1);
            }
            due("count(4) before " + lapse, x.count(4), 1);
            x.pass(1);
            due("count(4) at " + lapse, x.count(4), 0);
        }
    }

    @Says(in = "Settings", value = "EARLY (0 to 9; 2): seconds behind the end of a piece in which a first clap is early")
    static void rangeOfEarly() {
        range(EARLY);
        for (int early : new int[] {0, 9, 2}) {
            ApplauseTallies x = with(EARLY, early);
            x.ends(0);
            for (int second = 0; second < early; second++) {
                x.pass(1);
            }
            x.clap(0);
            x.pass(1);
            x.clap(1);
            due("of(0, 3) at " + early, x.of(0, 3), 1);
            due("of(1, 3) behind " + early, x.of(1, 3), 0);
        }
    }

    @Says(in = "Settings", value = "FOUND (1 to 9; 3): early claps by which a seat is suspected")
    static void rangeOfFound() {
        range(FOUND);
        for (int found : new int[] {1, 9, 3}) {
            ApplauseTallies x = with(FOUND, found);
            for (int piece = 1; piece < found; piece++) {
                carried(x, "e0;c0");
            }
            due("of(0, 2) below " + found, x.of(0, 2), 0);
            carried(x, "e0;c0");
            due("of(0, 2) at " + found, x.of(0, 2), 1);
        }
    }

    @Says(in = "Settings", value = "CALL (1 to 900; 50): applause that a curtain call takes")
    static void rangeOfCall() {
        range(CALL);
        ApplauseTallies x = with(CALL, 1);
        due("call() of 0 at 1", x.call(), NOT_POSSIBLE);
        x.loud(0, 1);
        x.ends(0);
        x.clap(0);
        x.pass(9);
        due("call() of 1 at 1", x.call(), 0);
        x.set(CALL, 900);
        x.ends(0);
        carried(x, "c0*89");
        due("call() of 890 at 900", x.call(), NOT_POSSIBLE);
        x.clap(0);
        due("call() of 900 at 900", x.call(), 450);
        ApplauseTallies y = made(z -> carried(z, "e0;c0;c0"));
        y.pass(1);
        due("call() of 54 at 50", y.call(), 27);
        due("call() of 27 at 50", y.call(), NOT_POSSIBLE);
    }

    // ---- Seats, pieces

    @Says(in = "Settings", value = "There are 30 seats, 0 to 29")
    static void thirtySeats() {
        for (int seat : new int[] {0, 29}) {
            ApplauseTallies x = made(y -> y.ends(0));
            due("loud(" + seat + ", 9)", x.loud(seat, 9), 3);
            due("pay(" + seat + ")", x.pay(seat), 1 << seat);
            due("clapsFor(" + seat + ")", x.clapsFor(seat), 3);
            due("clap(" + seat + ")", x.clap(seat), 90);
            due("of(" + seat + ", 5)", x.of(seat, 5), 1);
            due("of the other end", x.of(29 - seat, 5), 0);
            due("carryOut()", carried(x, "h" + seat + ";c" + seat), 2);
        }
        ApplauseTallies x = made(y -> y.ends(0));
        for (int no : NO_SEATS) {
            due("loud(" + no + ", 9)", x.loud(no, 9), NO_SUCH);
            due("pay(" + no + ")", x.pay(no), NO_SUCH);
            due("clap(" + no + ")", x.clap(no), NO_SUCH);
            due("clapsFor(" + no + ")", x.clapsFor(no), NO_SUCH);
            due("of(" + no + ", 0)", x.of(no, 0), NO_SUCH);
        }
        due("count(3)", x.count(3), 0);
        due("count(10)", x.count(10), 0);
        due("carryOut() of c30", carried(x, "c30"), 0);
        due("carryOut() of h30", carried(x, "h30"), 0);
    }

    @Says(in = "Settings", value = "each with a loudness (1 to 9; 3 at first), paid or not (at first not), and early claps so far")
    static void seatsAtFirst() {
        ApplauseTallies x = new ApplauseTallies();
        for (int seat = 0; seat < 30; seat++) {
            due("of(" + seat + ", 0)", x.of(seat, 0), 3);
            due("of(" + seat + ", 1)", x.of(seat, 1), 0);
            due("of(" + seat + ", 3)", x.of(seat, 3), 0);
        }
        due("loud(5, 0)", x.loud(5, 0), BAD_VALUE);
        due("loud(5, 10)", x.loud(5, 10), BAD_VALUE);
        due("loud(5, 1)", x.loud(5, 1), 3);
        due("loud(5, 9)", x.loud(5, 9), 1);
        due("of(5, 0)", x.of(5, 0), 9);
    }

    @Says(in = "Settings", value = "and 6 performers, 0 to 5.")
    static void sixPerformers() {
        ApplauseTallies x = new ApplauseTallies();
        x.set(ENCORE, 20);
        for (int performer : new int[] {0, 5}) {
            due("ends(" + performer + ")", x.ends(performer), 0);
            x.clap(0);
            due("performer(" + performer + ", 0)", x.performer(performer, 0), 1);
            due("lapsesIn(" + performer + ")", x.lapsesIn(performer), 60);
            due("play(" + performer + ")", x.play(performer), 0);
            due("carryOut()", carried(x, "e" + performer + ";c0;p" + performer), 3);
            due("count(9)", x.count(9), performer);
        }
        for (int no : NO_PERFORMERS) {
            due("ends(" + no + ")", x.ends(no), NO_SUCH);
            due("performer(" + no + ", 0)", x.performer(no, 0), NO_SUCH);
            due("lapsesIn(" + no + ")", x.lapsesIn(no), NO_SUCH);
            due("play(" + no + ")", x.play(no), NO_SUCH);
        }
        for (String order : new String[] {"e6", "e9", "p6", "p9"}) {
            due("carryOut() of " + order, carried(x, order), 0);
        }
        due("count(9)", x.count(9), 5);
    }

    @Says(in = "Settings", value = "The applause is 0 at first, and so is the time.")
    static void zeroAtFirst() {
        ApplauseTallies x = new ApplauseTallies();
        due("count(0)", x.count(0), 0);
        due("count(1)", x.count(1), 0);
        due("ends(0)", x.ends(0), 0);
        due("count(8)", x.count(8), 0);
    }

    @Says(in = "Settings", value = "When a piece of a performer ends, its applause begins: the applause is 0, and nobody "
        + "has clapped for this piece.")
    static void applauseBegins() {
        ApplauseTallies x = made(Checks::loudest);
        for (int seat = 0; seat < 30; seat++) {
            x.clap(seat);
        }
        due("count(0)", x.count(0), 9999);
        x.ends(0);
        due("count(0) of the next piece", x.count(0), 0);
        for (int seat = 0; seat < 30; seat++) {
            due("of(" + seat + ", 5)", x.of(seat, 5), 0);
        }
        due("clap(29)", x.clap(29), 30);
        due("of(29, 3): a first clap again", x.of(29, 3), 2);
        due("clapsFor(29): a new count of claps", x.clapsFor(29), 6);
    }

    @Says(in = "Settings", value = "(Until a piece ended in this night, there is no clapping.)")
    static void noClappingBefore() {
        ApplauseTallies x = new ApplauseTallies();
        x.pass(1);
        due("clap(0) in the first night", x.clap(0), NOT_POSSIBLE);
        due("carryOut() of c0", carried(x, "c0"), 0);
        due("clapsFor(0) in the first night", x.clapsFor(0), NOT_POSSIBLE);
        x.ends(0);
        due("clap(0) behind a piece", x.clap(0), 30);
        x.night();
        due("clap(0) in the next night", x.clap(0), NOT_POSSIBLE);
        due("carryOut() of c0", carried(x, "c0"), 0);
        due("of(0, 6)", x.of(0, 6), 1);
        x.undo();
        x.undo();
        due("clap(0) back in the first night", x.clap(0), 60);
    }

    @Says(in = "Settings", value = "the applause is 10 times its loudness more, but 9999 at most.")
    static void applauseAtMost() {
        ApplauseTallies x = new ApplauseTallies();
        x.ends(0);
        int sum = 0;
        for (int loudness = 1; loudness <= 9; loudness++) {
            x.loud(loudness, loudness);
            sum += 10 * loudness;
            due("clap of loudness " + loudness, x.clap(loudness), sum);
        }
        carried(x, "c9*99;c9*6");
        due("count(0)", x.count(0), 9900);
        due("clap to 9990", x.clap(9), 9990);
        due("clap of 10 to 9999", x.clap(1), 9999);
        due("clap of 10 at 9999", x.clap(1), 9999);
        due("clap of 90 at 9999", x.clap(9), 9999);
        due("of(9, 4): the claps count all the same", x.of(9, 4), 108);
    }

    @Says(in = "Settings", value = "If it is the first one of this seat for this piece")
    static void firstClapOfASeatForAPiece() {
        ApplauseTallies x = new ApplauseTallies();
        x.ends(0);
        x.clap(0);
        x.clap(0);
        due("of(0, 3) behind a second clap", x.of(0, 3), 1);
        x.clap(1);
        due("of(1, 3): the first one of another seat", x.of(1, 3), 1);
        x.pass(3);
        x.clap(2);
        x.set(EARLY, 9);
        x.clap(2);
        due("of(2, 3): the first one was late", x.of(2, 3), 0);
        x.ends(0);
        x.clap(0);
        x.clap(2);
        due("of(0, 3) for the next piece of the same performer", x.of(0, 3), 2);
        due("of(2, 3) for the next piece", x.of(2, 3), 1);
    }

    @Says(in = "Settings", value = "at most EARLY seconds have passed since the end of the piece, it is early.")
    static void earlyAtMost() {
        ApplauseTallies x = new ApplauseTallies();
        x.pass(99);
        x.ends(0);
        x.clap(0);
        x.pass(2);
        x.clap(1);
        x.pass(1);
        x.clap(2);
        due("of(0, 3) in the same second", x.of(0, 3), 1);
        due("of(1, 3) behind EARLY seconds", x.of(1, 3), 1);
        due("of(2, 3) behind one more", x.of(2, 3), 0);
        x.ends(0);
        x.clap(3);
        due("of(3, 3): since the end of this piece", x.of(3, 3), 1);
        x.set(EARLY, 0);
        x.clap(4);
        x.pass(1);
        x.clap(5);
        due("of(4, 3) with EARLY 0 in the same second", x.of(4, 3), 1);
        due("of(5, 3) with EARLY 0 behind a second", x.of(5, 3), 0);
    }

    @Says(in = "Settings", value = "If the applause is ENCORE or more by that")
    static void applauseIsEncoreOrMore() {
        ApplauseTallies x = new ApplauseTallies();
        x.set(ENCORE, 60);
        x.ends(0);
        x.clap(0);
        due("count(4) at 30", x.count(4), 0);
        x.clap(0);
        due("count(4) at ENCORE", x.count(4), 1);
        x.set(ENCORE, 61);
        x.ends(1);
        x.clap(0);
        x.clap(0);
        due("count(4) at 60 of 61", x.count(4), 1);
        x.clap(0);
        due("count(4) above ENCORE", x.count(4), 2);
    }

    @Says(in = "Settings", value = "and no encore was owed for this piece")
    static void oneEncoreForAPiece() {
        ApplauseTallies x = new ApplauseTallies();
        x.set(ENCORE, 20);
        x.ends(0);
        x.clap(0);
        x.clap(0);
        due("count(4) behind a second clap", x.count(4), 1);
        x.pass(60);
        due("count(6)", x.count(6), 1);
        x.clap(0);
        due("count(4): one was owed, and lapsed", x.count(4), 0);
        x.ends(0);
        x.clap(0);
        due("count(4): none was owed for the next piece", x.count(4), 1);
        x.ends(0);
        x.clap(0);
        due("count(4): one is owed for each piece", x.count(4), 2);
    }

    @Says(in = "Settings", value = "an encore is owed by its performer from now on.")
    static void owedFromNowOn() {
        ApplauseTallies x = new ApplauseTallies();
        x.set(ENCORE, 20);
        x.ends(5);
        x.pass(7);
        x.clap(0);
        due("owed(0, 0)", x.owed(0, 0), 5);
        due("owed(0, 1) at once", x.owed(0, 1), 0);
        due("lapsesIn(5) at once", x.lapsesIn(5), 60);
        x.ends(2);
        due("owed(0, 0) behind the next piece", x.owed(0, 0), 5);
        x.pass(1);
        due("owed(0, 1) behind a second", x.owed(0, 1), 1);
    }

    // ---- Seconds

    @Says(in = "Seconds", value = "In a second, the applause becomes less by applause * DECAY / 100")
    static void lessInASecond() {
        ApplauseTallies x = made(Checks::loudest);
        x.set(DECAY, 50);
        due("pass(1) from 9999 at 50", x.pass(1), 5000);
        x.set(DECAY, 1);
        due("pass(1) from 5000 at 1", x.pass(1), 4950);
        x.set(DECAY, 49);
        due("pass(1) from 4950 at 49", x.pass(1), 2525);
        x.set(DECAY, 10);
        due("pass(2): each second from what the one before left", x.pass(2), 2046);
    }

    @Says(in = "Seconds", value = "but by 1 at least, if it is not 0")
    static void oneAtLeast() {
        ApplauseTallies x = new ApplauseTallies();
        due("pass(1) from 0", x.pass(1), 0);
        x.set(DECAY, 1);
        x.loud(0, 1);
        x.ends(0);
        carried(x, "c0*10");
        due("pass(1) from 100", x.pass(1), 99);
        due("pass(1) from 99", x.pass(1), 98);
        due("pass(97)", x.pass(97), 1);
        due("pass(1) from 1", x.pass(1), 0);
        due("pass(1) from 0", x.pass(1), 0);
        due("pass(99) from 0", x.pass(99), 0);
    }

    @Says(in = "Seconds", value = "then the time is 1 more")
    static void timeIsOneMore() {
        ApplauseTallies x = new ApplauseTallies();
        x.pass(1);
        due("count(1)", x.count(1), 1);
        x.pass(99);
        due("count(1)", x.count(1), 100);
        x.ends(0);
        x.clap(0);
        x.call();
        x.night();
        due("count(1) without a second", x.count(1), 100);
    }

    @Says(in = "Seconds", value = "then each encore that has been owed for LAPSE seconds or more lapses.")
    static void lapsesBehindLapse() {
        ApplauseTallies x = made(Checks::fullHouse);
        x.set(LAPSE, 9);
        x.pass(1);
        due("owed(0, 1) one before LAPSE", x.owed(0, 1), 8);
        due("count(4)", x.count(4), 8);
        x.pass(1);
        due("count(4): the one at LAPSE lapsed", x.count(4), 7);
        due("performer(0, 2)", x.performer(0, 2), 1);
        x.set(LAPSE, 4);
        x.pass(1);
        due("count(4): all those above LAPSE lapsed, too", x.count(4), 1);
        due("owed(0, 1): the one that is left", x.owed(0, 1), 3);
        x.set(LAPSE, 300);
        x.pass(99);
        due("count(4) with a higher LAPSE", x.count(4), 1);
        x.set(LAPSE, 103);
        x.pass(1);
        due("count(4) at the very LAPSE", x.count(4), 0);
        ApplauseTallies y = made(Checks::fullHouse);
        y.pass(60);
        due("count(4): all have been owed for LAPSE seconds", y.count(4), 0);
        due("count(6)", y.count(6), 8);
    }

    @Says(in = "Seconds", value = "There are at most 8 encores owed at once")
    static void eightAtMost() {
        ApplauseTallies x = made(Checks::fullHouse);
        due("count(4)", x.count(4), 8);
        x.ends(5);
        x.clap(0);
        due("count(4) behind a ninth", x.count(4), 8);
        due("owed(7, 0)", x.owed(7, 0), 1);
        due("owed(8, 0)", x.owed(8, 0), NO_SUCH);
        x.play(0);
        due("count(4)", x.count(4), 7);
        x.clap(0);
        due("count(4) with room for one", x.count(4), 8);
        due("owed(7, 0)", x.owed(7, 0), 0);
        due("count(6)", x.count(6), 1);
    }

    @Says(in = "Seconds", value = "in the order in which they came")
    static void inTheirOrder() {
        ApplauseTallies x = made(Checks::fullHouse);
        x.play(3);
        int[] performers = {0, 1, 2, 4, 5, 0, 1};
        int[] seconds = {7, 6, 5, 3, 2, 1, 0};
        for (int rank = 0; rank < 7; rank++) {
            due("owed(" + rank + ", 0)", x.owed(rank, 0), performers[rank]);
            due("owed(" + rank + ", 1)", x.owed(rank, 1), seconds[rank]);
        }
        due("owed(7, 0)", x.owed(7, 0), NO_SUCH);
        x.clap(0);
        due("owed(7, 0): the latest one is the last", x.owed(7, 0), 3);
    }

    @Says(in = "Seconds", value = "when one more would be owed, it is not, and is counted as lapsed at once")
    static void noRoom() {
        ApplauseTallies x = made(Checks::fullHouse);
        x.ends(4);
        due("clap(0)", x.clap(0), 30);
        due("performer(4, 0)", x.performer(4, 0), 1);
        due("performer(4, 2)", x.performer(4, 2), 1);
        due("count(4)", x.count(4), 8);
        due("count(6)", x.count(6), 1);
        x.write();
        padIs(x, "c9e0l1k0,0:2,1:2,2:1,3:1,4:1,5:1");
        due("night()", x.night(), 8);
        due("record(0, 2)", x.record(0, 2), 9);
    }

    @Says(in = "Seconds", value = "(later claps for this piece bring no other one)")
    static void noRoomNoOther() {
        ApplauseTallies x = made(Checks::fullHouse);
        x.ends(4);
        x.clap(0);
        x.clap(0);
        x.clap(1);
        due("count(6) without room", x.count(6), 1);
        x.set(LAPSE, 1);
        x.pass(1);
        due("count(4) with room for all", x.count(4), 0);
        x.clap(0);
        due("count(4)", x.count(4), 0);
        due("count(6)", x.count(6), 9);
        due("performer(4, 2)", x.performer(4, 2), 2);
        x.ends(4);
        x.clap(0);
        due("count(4) for the next piece", x.count(4), 1);
    }

    @Says(in = "Seconds", value = "To play an encore is to play the earliest one that a performer owes: it is not owed any more")
    static void earliestIsPlayed() {
        ApplauseTallies x = made(Checks::fullHouse);
        due("play(1)", x.play(1), 1);
        due("owed(6, 0): the later one is owed yet", x.owed(6, 0), 1);
        due("owed(6, 1)", x.owed(6, 1), 0);
        due("owed(0, 0): the one before stays", x.owed(0, 0), 0);
        due("play(1) of the last rank", x.play(1), 0);
        due("count(4)", x.count(4), 6);
        due("owed(5, 0)", x.owed(5, 0), 0);
        due("play(1), none owed", x.play(1), NOT_POSSIBLE);
        due("play(0) of the first rank", x.play(0), 1);
        due("owed(0, 0)", x.owed(0, 0), 2);
    }

    @Says(in = "Seconds", value = "and it is a piece that ends now.")
    static void encoreIsAPiece() {
        ApplauseTallies x = new ApplauseTallies();
        x.set(ENCORE, 20);
        x.ends(2);
        x.clap(0);
        x.ends(4);
        x.pass(5);
        x.clap(1);
        x.play(2);
        due("count(0)", x.count(0), 0);
        due("count(8)", x.count(8), 0);
        due("count(9)", x.count(9), 2);
        due("of(1, 5)", x.of(1, 5), 0);
        due("performer(2, 3)", x.performer(2, 3), 2);
        due("clapsFor(0)", x.clapsFor(0), 1);
        x.clap(0);
        due("of(0, 3): early behind the encore", x.of(0, 3), 2);
        due("performer(2, 0): it brings one of its own", x.performer(2, 0), 1);
    }

    @Says(in = "Seconds", value = "A curtain call needs an applause of CALL or more")
    static void callNeedsCall() {
        ApplauseTallies x = new ApplauseTallies();
        x.ends(0);
        x.clap(0);
        x.clap(0);
        x.set(CALL, 61);
        due("call() of 60 at 61", x.call(), NOT_POSSIBLE);
        due("calls() of 60 at 61", x.calls(), 0);
        x.set(CALL, 60);
        due("calls() of 60 at 60", x.calls(), 1);
        due("call() of 60 at 60", x.call(), 30);
        due("call() of 30 at 60", x.call(), NOT_POSSIBLE);
        x.set(CALL, 29);
        due("call() of 30 at 29", x.call(), 15);
        due("count(7)", x.count(7), 2);
    }

    @Says(in = "Seconds", value = "the applause is half of what it was then.")
    static void halfThen() {
        ApplauseTallies x = made(Checks::loudest);
        x.set(CALL, 1);
        int[] halves = {4999, 2499, 1249, 624, 312, 156, 78, 39, 19, 9, 4, 2, 1, 0};
        for (int half : halves) {
            due("call()", x.call(), half);
            due("count(0)", x.count(0), half);
        }
        due("call() of 0", x.call(), NOT_POSSIBLE);
    }

    @Says(in = "Seconds", value = "A seat is suspected if it has FOUND early claps or more.")
    static void suspectedAtFound() {
        ApplauseTallies x = new ApplauseTallies();
        for (int piece = 1; piece <= 4; piece++) {
            carried(x, "e0;c6");
            due("of(6, 2) with " + piece, x.of(6, 2), piece >= 3 ? 1 : 0);
            due("count(11) with " + piece, x.count(11), piece >= 3 ? 1 << 6 : 0);
        }
        x.set(FOUND, 5);
        due("of(6, 2) with one more FOUND", x.of(6, 2), 0);
        due("count(11)", x.count(11), 0);
        x.set(FOUND, 4);
        due("count(11) at FOUND", x.count(11), 1 << 6);
    }

    @Says(in = "Seconds", value = "Someone paid is found if suspected.")
    static void foundIfPaidAndSuspected() {
        ApplauseTallies x = new ApplauseTallies();
        x.set(FOUND, 1);
        due("count(12) of nobody", x.count(12), 0);
        carried(x, "h0;h29;e0;c29;c5");
        due("count(10)", x.count(10), 1 | 1 << 29);
        due("count(11)", x.count(11), 1 << 5 | 1 << 29);
        due("count(12): neither paid alone nor suspected alone", x.count(12), 1 << 29);
        x.pay(29);
        due("count(12) of one who is not paid any more", x.count(12), 0);
        x.pay(5);
        due("count(12) of one who is paid now", x.count(12), 1 << 5);
    }

    // ---- Nights

    @Says(in = "Nights", value = "When a night ends, all encores that are owed lapse")
    static void allOwedLapse() {
        ApplauseTallies x = made(Checks::fullHouse);
        due("night() of eight, the latest owed for 0 seconds", x.night(), 8);
        due("count(4)", x.count(4), 0);
        due("count(6)", x.count(6), 8);
        due("owed(0, 0)", x.owed(0, 0), NO_SUCH);
        due("performer(0, 2)", x.performer(0, 2), 2);
        due("performer(5, 2)", x.performer(5, 2), 1);
        due("lapsesIn(1)", x.lapsesIn(1), NONE);
        due("play(1)", x.play(1), NOT_POSSIBLE);
        due("night() of none", x.night(), 0);
    }

    @Says(in = "Nights", value = {"the applause is 0", "no piece has ended in the next night", "claps of the night are none."})
    static void theNextNight() {
        ApplauseTallies x = made(Checks::loudest);
        x.clap(29);
        x.night();
        due("count(0)", x.count(0), 0);
        due("count(8)", x.count(8), NONE);
        due("count(9)", x.count(9), NONE);
        due("clapsFor(0)", x.clapsFor(0), NOT_POSSIBLE);
        due("count(3)", x.count(3), 0);
        due("of(0, 4)", x.of(0, 4), 0);
        due("of(29, 4)", x.of(29, 4), 0);
        due("of(0, 5)", x.of(0, 5), 0);
        due("of(29, 5)", x.of(29, 5), 0);
        due("clapper(0)", x.clapper(0), NO_SUCH);
        due("ends(1)", x.ends(1), 0);
        x.clap(29);
        due("clapper(0)", x.clapper(0), 29);
        due("clapper(1)", x.clapper(1), NO_SUCH);
        due("count(3)", x.count(3), 1);
    }

    /** The claps of a night are its number, so that each record can be told from the others. */
    private static void nightOf(ApplauseTallies x, int claps) {
        carried(x, "e0;c0*" + claps + ";n");
    }

    @Says(in = "Nights", value = "Its record is kept, the latest 6: its claps, encores played and lapsed in it, curtain calls.")
    static void latestSixRecords() {
        ApplauseTallies x = new ApplauseTallies();
        due("record(0, 0) of none", x.record(0, 0), NO_SUCH);
        for (int night = 1; night <= 14; night++) {
            nightOf(x, night);
            int kept = Math.min(night, 6);
            for (int rank = 0; rank < kept; rank++) {
                due("record(" + rank + ", 0) behind " + night, x.record(rank, 0), night - rank);
            }
            due("record(" + kept + ", 0) behind " + night, x.record(kept, 0), NO_SUCH);
        }
        ApplauseTallies y = new ApplauseTallies();
        carried(y, "n;".repeat(39) + "n");
        carried(y, "n;".repeat(39) + "n");
        for (int night = 81; night <= 99; night++) {
            nightOf(y, night);
        }
        due("record(0, 0) of the 99th night", y.record(0, 0), 99);
        due("record(5, 0) of the 94th night", y.record(5, 0), 94);
        due("record(6, 0)", y.record(6, 0), NO_SUCH);
    }

    @Says(in = "Nights", value = "its claps, encores played and lapsed in it, curtain calls.")
    static void recordIsOfItsNightAlone() {
        ApplauseTallies x = made(Checks::fullHouse);
        x.play(0);
        x.set(CALL, 1);
        x.clap(0);
        x.call();
        x.call();
        x.night();
        int[] first = {9, 1, 8, 2};
        x.ends(0);
        x.clap(0);
        x.night();
        int[] second = {1, 0, 1, 0};
        for (int what = 0; what < 4; what++) {
            due("record(1, " + what + ")", x.record(1, what), first[what]);
            due("record(0, " + what + ")", x.record(0, what), second[what]);
        }
        due("count(7)", x.count(7), 0);
    }

    @Says(in = "Nights", value = "Early claps, who is paid, and the time stay.")
    static void whatStays() {
        ApplauseTallies x = new ApplauseTallies();
        x.set(LAPSE, 299);
        x.loud(3, 7);
        carried(x, "w41;h29;h0;e0;c3;e0;c3;w1;e0;c3;c3");
        x.night();
        due("of(3, 3)", x.of(3, 3), 3);
        due("count(11)", x.count(11), 8);
        due("count(10)", x.count(10), 1 | 1 << 29);
        due("count(1)", x.count(1), 42);
        due("of(3, 0)", x.of(3, 0), 7);
        due("of(3, 6)", x.of(3, 6), 4);
        due("performer(0, 3)", x.performer(0, 3), 3);
        due("count(15)", x.count(15), 299);
        x.ends(1);
        x.clap(3);
        due("of(3, 3) goes on", x.of(3, 3), 4);
    }

    // ---- what if

    /** The time here lies behind the 512 calls of an object: the answers are free there, and yet as the words say. */
    @Says(in = "Texts", value = "nothing changes (the bound of the time does not matter)")
    static void boundOfTimeDoesNotMatter() {
        ApplauseTallies x = new ApplauseTallies();
        for (int i = 0; i < 1010; i++) {
            x.pass(99);
        }
        x.set(DECAY, 1);
        loudest(x);
        due("count(1)", x.count(1), 99990);
        due("lapsesIn(0)", x.lapsesIn(0), 60);
        due("quietIn(9998)", x.quietIn(9998), 1);
        due("quietIn(0) is the same at any time", x.quietIn(0), made(y -> {
            y.set(DECAY, 1);
            loudest(y);
        }).quietIn(0));
        due("count(1)", x.count(1), 99990);
        due("count(0)", x.count(0), 9999);
    }

    @Says(in = "Texts", value = "nothing changes (the bound of the time does not matter)")
    static void whatIfChangesNothing() {
        quiet("quietIn(0)", Checks::busy, x -> x.quietIn(0));
        quiet("quietIn(9999)", Checks::busy, x -> x.quietIn(9999));
        quiet("clapsFor(29)", Checks::busy, x -> x.clapsFor(29));
        quiet("lapsesIn(5)", Checks::busy, x -> x.lapsesIn(5));
        quiet("lapsesIn(0)", Checks::busy, x -> x.lapsesIn(0));
        quiet("calls()", Checks::busy, ApplauseTallies::calls);
        quiet("ifFound(1)", Checks::busy, x -> x.ifFound(1));
        quiet("ifFound(9)", Checks::busy, x -> x.ifFound(9));
    }
}
