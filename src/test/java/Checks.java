import java.util.ArrayList;
import java.util.List;

/** What the tests of promises and boundaries share: houses to begin with, and ways to check calls on them. */
class Checks {
    static final int NO_SUCH = -1, BAD_VALUE = -2, BAD_TEXT = -3, TOO_MANY = -4, NOT_POSSIBLE = -5, NONE = -6;
    static final int DECAY = 0, ENCORE = 1, LAPSE = 2, EARLY = 3, FOUND = 4, CALL = 5;
    static final int[] LEAST = {1, 20, 1, 0, 1, 1};
    static final int[] MOST = {50, 900, 300, 9, 9, 900};
    static final int[] FIRST = {10, 200, 60, 2, 3, 50};
    static final int[] NO_SEATS = {Integer.MIN_VALUE, -1, 30, 31, 32, 64, Integer.MAX_VALUE};
    static final int[] NO_SETTINGS = {Integer.MIN_VALUE, -1, 6, 7, Integer.MAX_VALUE};
    static final int[] NO_PERFORMERS = {Integer.MIN_VALUE, -1, 6, 7, Integer.MAX_VALUE};
    static final int ALL_SEATS = (1 << 30) - 1;

    interface Script {
        void on(ApplauseTallies x);
    }

    interface Call {
        int on(ApplauseTallies x);
    }

    /** Where the document says what is checked now. */
    static String place = "";
    static int right = 0;
    static int wrong = 0;

    static void due(String call, long got, long want) {
        if (got == want) {
            right++;
            return;
        }
        wrong++;
        System.out.println(place + ": " + call + " answered " + got + ", due is " + want);
    }

    static void padIs(ApplauseTallies x, String want) {
        String got = padOf(x);
        if (got.equals(want)) {
            right++;
            return;
        }
        wrong++;
        System.out.println(place + ": the pad is " + got + ", due is " + want);
    }

    static ApplauseTallies made(Script script) {
        ApplauseTallies x = new ApplauseTallies();
        script.on(x);
        return x;
    }

    /** Puts a text into the pad, in place of what was there. */
    static void fill(ApplauseTallies x, String text) {
        x.wipe();
        for (int from = 0; from < text.length(); from += 8) {
            x.put(packed(text.substring(from, Math.min(from + 8, text.length()))));
        }
    }

    static int carried(ApplauseTallies x, String text) {
        fill(x, text);
        return x.carryOut();
    }

    static long packed(String text) {
        long number = 0;
        for (char sign : text.toCharArray()) {
            number = number << 8 | sign;
        }
        return number;
    }

    static String padOf(ApplauseTallies x) {
        StringBuilder text = new StringBuilder();
        int length = x.count(19);
        for (int place = 0; place < length; place++) {
            text.append((char) x.sign(place));
        }
        return text.toString();
    }

    /**
     * All that an object tells, in few enough calls for the bound on its use; the history and the slots
     * come last, since to look at them changes what there is.
     */
    static List<Integer> tellings(ApplauseTallies x, boolean history) {
        List<Integer> all = new ArrayList<>();
        for (int what = 0; what < (history ? 21 : 20); what++) {
            all.add(x.count(what));
        }
        for (int seat = 0; seat < 30; seat++) {
            for (int what = 0; what < 7; what++) {
                all.add(x.of(seat, what));
            }
        }
        for (int performer = 0; performer < 6; performer++) {
            for (int what = 0; what < 4; what++) {
                all.add(x.performer(performer, what));
            }
        }
        tellRanks(x, all);
        for (char sign : padOf(x).toCharArray()) {
            all.add((int) sign);
        }
        all.add(x.clapsFor(0));
        if (history) {
            tellHistory(x, all);
        }
        for (int slot = 0; slot < 2; slot++) {
            all.add(x.restore(slot));
            all.add(x.count(0));
            all.add(x.count(1));
            all.add(x.of(4, 6));
        }
        return all;
    }

    private static void tellRanks(ApplauseTallies x, List<Integer> all) {
        int owed = x.count(4);
        for (int rank = 0; rank < owed; rank++) {
            all.add(x.owed(rank, 0));
            all.add(x.owed(rank, 1));
        }
        int seat = x.clapper(0);
        for (int rank = 1; seat >= 0 && rank < 32; rank++) {
            all.add(seat);
            seat = x.clapper(rank);
        }
        int claps = x.record(0, 0);
        for (int rank = 1; claps >= 0 && rank < 8; rank++) {
            all.add(claps);
            for (int what = 1; what < 4; what++) {
                all.add(x.record(rank - 1, what));
            }
            claps = x.record(rank, 0);
        }
    }

    private static void tellHistory(ApplauseTallies x, List<Integer> all) {
        for (int i = 0; i < 7; i++) {
            all.add(x.undo());
            all.add(x.count(0));
            all.add(x.count(1));
            all.add(x.count(2));
            all.add(x.count(10));
        }
    }

    static void same(String what, Script one, Script other) {
        alike(what, tellings(made(one), true), tellings(made(other), true));
    }

    /** The same, whatever the two can undo. */
    static void sameNow(String what, Script one, Script other) {
        alike(what, tellings(made(one), false), tellings(made(other), false));
    }

    static void alike(String what, List<Integer> one, List<Integer> other) {
        due("tellings of " + what, other.size(), one.size());
        for (int i = 0; i < Math.min(one.size(), other.size()); i++) {
            if (!one.get(i).equals(other.get(i))) {
                due("telling " + i + " of " + what, other.get(i), one.get(i));
                return;
            }
        }
    }

    /** A call that returns an error changes nothing. */
    static void refused(String call, Script before, Call asked, int error) {
        same(call + " changes nothing", before, x -> {
            before.on(x);
            due(call, asked.on(x), error);
        });
    }

    /** A method that is no change records nothing and changes nothing. */
    static void quiet(String call, Script before, Call asked) {
        same(call + " is no change", before, x -> {
            before.on(x);
            asked.on(x);
        });
    }

    /** A change is undone whole, and is recorded even if nothing is different. */
    static void undone(String call, Script before, Call asked) {
        ApplauseTallies changed = made(before);
        int kept = changed.count(20);
        due(call + " is no error", asked.on(changed) >= 0 ? 1 : 0, 1);
        due("count(20) behind " + call, changed.count(20), Math.min(kept + 1, 6));
        due("undo() behind " + call, changed.undo(), Math.min(kept + 1, 6) - 1);
        alike("undo of " + call, tellings(made(before), false), tellings(changed, false));
    }

    /** A house in its second night, with something of everything. */
    static void busy(ApplauseTallies x) {
        x.set(ENCORE, 40);
        x.loud(4, 5);
        x.pay(4);
        x.pay(9);
        x.ends(1);
        x.clap(4);
        x.pass(2);
        x.ends(3);
        x.clap(9);
        x.clap(9);
        x.save(0);
        x.night();
        x.ends(2);
        x.clap(4);
        x.pass(3);
        x.clap(0);
        x.ends(5);
        x.clap(4);
        x.clap(9);
        x.put(packed("e3;c4"));
    }

    /** Eight encores owed: performers 0, 1, 2, 3, 4, 5, 0, 1, a second apart; the piece is 1's. */
    static void fullHouse(ApplauseTallies x) {
        x.set(ENCORE, 20);
        for (int i = 0; i < 8; i++) {
            if (i > 0) {
                x.pass(1);
            }
            x.ends(i % 6);
            x.clap(7);
        }
    }

    /** The latest night that can end has ended. */
    static void lastNight(ApplauseTallies x) {
        for (int i = 0; i < 99; i++) {
            x.night();
        }
    }

    /** A piece of performer 0 has ended, and the seat 0 clapped it to the most applause. */
    static void loudest(ApplauseTallies x) {
        x.loud(0, 9);
        carried(x, "e0;c0*99;c0*13");
    }
}
