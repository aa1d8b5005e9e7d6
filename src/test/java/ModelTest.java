import java.util.ArrayDeque;
import java.util.ArrayList;
import java.util.Arrays;
import java.util.Deque;
import java.util.List;
import java.util.function.ToIntFunction;
import java.util.regex.Matcher;
import java.util.regex.Pattern;

/**
 * Long runs of calls, each answer compared with that of a second model of the document, which is
 * plainer and slower: it copies whole states, tells what would be by trying it, and reads texts by a
 * regular expression.
 */
public final class ModelTest {
    private static final int NO_SUCH = -1, BAD_VALUE = -2, BAD_TEXT = -3, TOO_MANY = -4, NOT_POSSIBLE = -5, NONE = -6;
    private static final int DECAY = 0, ENCORE = 1, LAPSE = 2, EARLY = 3, FOUND = 4, CALL = 5;
    private static final int RUNS = 3000;
    private static final int CALLS = 512;

    private record Piece(int performer, int end, List<Integer> clapped, boolean[] encoreCame) {
        Piece copy() {
            return new Piece(performer, end, new ArrayList<>(clapped), encoreCame.clone());
        }
    }

    private record Owed(int performer, int since) {
    }

    /** What undo and the slots bring back. */
    private static final class State {
        int[] settings = {10, 200, 60, 2, 3, 50};
        int[] loudness = new int[30];
        boolean[] paid = new boolean[30];
        int[] early = new int[30];
        int[] claps = new int[30];
        List<Integer> tonight = new ArrayList<>();
        int[] played = new int[6];
        int[] lapsed = new int[6];
        int[] pieces = new int[6];
        int playedTonight;
        int lapsedTonight;
        int curtains;
        List<Owed> owed = new ArrayList<>();
        List<int[]> records = new ArrayList<>();
        Piece piece;
        int applause;
        int time;

        State() {
            Arrays.fill(loudness, 3);
        }

        State copy() {
            State to = new State();
            to.settings = settings.clone();
            to.loudness = loudness.clone();
            to.paid = paid.clone();
            to.early = early.clone();
            to.claps = claps.clone();
            to.tonight = new ArrayList<>(tonight);
            to.played = played.clone();
            to.lapsed = lapsed.clone();
            to.pieces = pieces.clone();
            to.playedTonight = playedTonight;
            to.lapsedTonight = lapsedTonight;
            to.curtains = curtains;
            to.owed = new ArrayList<>(owed);
            to.records = new ArrayList<>(records);
            to.piece = piece == null ? null : piece.copy();
            to.applause = applause;
            to.time = time;
            return to;
        }

        int owedBy(int performer) {
            return (int) owed.stream().filter(o -> o.performer() == performer).count();
        }

        int suspects(int found) {
            int set = 0;
            for (int seat = 0; seat < 30; seat++) {
                set |= early[seat] >= found ? 1 << seat : 0;
            }
            return set;
        }

        int paidSet() {
            int set = 0;
            for (int seat = 0; seat < 30; seat++) {
                set |= paid[seat] ? 1 << seat : 0;
            }
            return set;
        }

        int tonightBy(int seat) {
            return (int) tonight.stream().filter(s -> s == seat).count();
        }

        void lapse(Owed one) {
            owed.remove(one);
            countLapsed(one.performer());
        }

        void countLapsed(int performer) {
            lapsed[performer]++;
            lapsedTonight++;
        }

        int ends(int performer) {
            if (performer < 0 || performer > 5) {
                return NO_SUCH;
            }
            int was = applause;
            piece = new Piece(performer, time, new ArrayList<>(), new boolean[1]);
            pieces[performer]++;
            applause = 0;
            return was;
        }

        int pay(int seat) {
            if (seat < 0 || seat > 29) {
                return NO_SUCH;
            }
            paid[seat] = !paid[seat];
            return paidSet();
        }

        int clap(int seat) {
            if (seat < 0 || seat > 29) {
                return NO_SUCH;
            }
            if (piece == null) {
                return NOT_POSSIBLE;
            }
            if (!piece.clapped().contains(seat)) {
                piece.clapped().add(seat);
                if (time - piece.end() <= settings[EARLY]) {
                    early[seat]++;
                }
            }
            tonight.add(seat);
            claps[seat]++;
            applause += 10 * loudness[seat];
            if (applause > 9999) {
                applause = 9999;
            }
            if (applause >= settings[ENCORE] && !piece.encoreCame()[0]) {
                piece.encoreCame()[0] = true;
                if (owed.size() == 8) {
                    countLapsed(piece.performer());
                } else {
                    owed.add(new Owed(piece.performer(), time));
                }
            }
            return applause;
        }

        void second() {
            if (applause > 0) {
                int less = applause * settings[DECAY] / 100;
                applause -= less == 0 ? 1 : less;
            }
            time++;
            for (Owed one : new ArrayList<>(owed)) {
                if (time - one.since() >= settings[LAPSE]) {
                    lapse(one);
                }
            }
        }

        int pass(int seconds) {
            if (seconds < 1 || seconds > 99) {
                return BAD_VALUE;
            }
            if (time + seconds > 99999) {
                return NOT_POSSIBLE;
            }
            for (int i = 0; i < seconds; i++) {
                second();
            }
            return applause;
        }

        int play(int performer) {
            if (performer < 0 || performer > 5) {
                return NO_SUCH;
            }
            for (Owed one : owed) {
                if (one.performer() == performer) {
                    owed.remove(one);
                    played[performer]++;
                    playedTonight++;
                    ends(performer);
                    return owedBy(performer);
                }
            }
            return NOT_POSSIBLE;
        }

        int call() {
            if (applause < settings[CALL]) {
                return NOT_POSSIBLE;
            }
            curtains++;
            applause = applause / 2;
            return applause;
        }

        int night() {
            if (records.size() == 99) {
                return NOT_POSSIBLE;
            }
            int gone = owed.size();
            for (Owed one : new ArrayList<>(owed)) {
                lapse(one);
            }
            records.add(0, new int[] {tonight.size(), playedTonight, lapsedTonight, curtains});
            tonight.clear();
            playedTonight = 0;
            lapsedTonight = 0;
            curtains = 0;
            piece = null;
            applause = 0;
            return gone;
        }

        String bill() {
            StringBuilder text = new StringBuilder("c" + tonight.size() + "e" + playedTonight + "l" + lapsedTonight
                + "k" + curtains);
            for (int performer = 0; performer < 6; performer++) {
                if (owedBy(performer) > 0) {
                    text.append("," + performer + ":" + owedBy(performer));
                }
            }
            return text.toString();
        }

        int order(char kind, int number) {
            switch (kind) {
                case 'e':
                    return ends(number);
                case 'c':
                    return clap(number);
                case 'w':
                    return pass(number);
                case 'p':
                    return play(number);
                case 'k':
                    return call();
                case 'n':
                    return night();
                default:
                    return pay(number);
            }
        }
    }

    private static final String NUMBER = "(?:0|[1-9][0-9]?)";
    private static final String ORDER = "(?:e[0-9]|c" + NUMBER + "(?:\\*" + NUMBER + ")?|w" + NUMBER + "|p[0-9]|k|n|h"
        + NUMBER + ")";
    private static final Pattern TEXT = Pattern.compile(ORDER + "(?:;" + ORDER + ")*");

    private static int faultOf(String text) {
        if (TEXT.matcher(text).matches()) {
            return NONE;
        }
        for (int length = 1; length <= text.length(); length++) {
            Matcher matcher = TEXT.matcher(text.substring(0, length));
            if (!matcher.matches() && !matcher.hitEnd()) {
                return length - 1;
            }
        }
        return text.length();
    }

    /** The model: a state, its history, the slots and the pad. */
    private static final class Model {
        State now = new State();
        Deque<State> history = new ArrayDeque<>();
        State[] slots = new State[2];
        String pad = "";

        int change(ToIntFunction<State> what) {
            State next = now.copy();
            int answer = what.applyAsInt(next);
            if (answer >= 0) {
                history.addLast(now);
                now = next;
                if (history.size() > 6) {
                    history.removeFirst();
                }
            }
            return answer;
        }

        int set(int setting, int value) {
            int[][] ranges = {{1, 50}, {20, 900}, {1, 300}, {0, 9}, {1, 9}, {1, 900}};
            if (setting < 0 || setting > 5 || value < ranges[setting][0] || value > ranges[setting][1]) {
                return BAD_VALUE;
            }
            return change(s -> {
                int was = s.settings[setting];
                s.settings[setting] = value;
                return was;
            });
        }

        int loud(int seat, int loudness) {
            if (seat < 0 || seat > 29) {
                return NO_SUCH;
            }
            if (loudness < 1 || loudness > 9) {
                return BAD_VALUE;
            }
            return change(s -> {
                int was = s.loudness[seat];
                s.loudness[seat] = loudness;
                return was;
            });
        }

        int of(int seat, int what) {
            if (seat < 0 || seat > 29) {
                return NO_SUCH;
            }
            if (what < 0 || what > 6) {
                return BAD_VALUE;
            }
            return new int[] {now.loudness[seat], now.paid[seat] ? 1 : 0,
                now.early[seat] >= now.settings[FOUND] ? 1 : 0, now.early[seat], now.tonightBy(seat),
                now.piece != null && now.piece.clapped().contains(seat) ? 1 : 0, now.claps[seat]}[what];
        }

        int performer(int performer, int what) {
            if (performer < 0 || performer > 5) {
                return NO_SUCH;
            }
            if (what < 0 || what > 3) {
                return BAD_VALUE;
            }
            return new int[] {now.owedBy(performer), now.played[performer], now.lapsed[performer],
                now.pieces[performer]}[what];
        }

        int owed(int rank, int what) {
            if (rank < 0 || rank >= now.owed.size()) {
                return NO_SUCH;
            }
            if (what < 0 || what > 1) {
                return BAD_VALUE;
            }
            Owed one = now.owed.get(rank);
            return what == 0 ? one.performer() : now.time - one.since();
        }

        int clapper(int rank) {
            return rank < 0 ? NO_SUCH
                : now.tonight.stream().distinct().skip(rank).findFirst().orElse(NO_SUCH);
        }

        int record(int rank, int what) {
            if (rank < 0 || rank > 5 || rank >= now.records.size()) {
                return NO_SUCH;
            }
            return what < 0 || what > 3 ? BAD_VALUE : now.records.get(rank)[what];
        }

        int count(int what) {
            if (what < 0 || what > 20) {
                return BAD_VALUE;
            }
            int suspects = now.suspects(now.settings[FOUND]);
            Piece piece = now.piece;
            return new int[] {now.applause, now.time, now.records.size(), now.tonight.size(), now.owed.size(),
                Arrays.stream(now.played).sum(), Arrays.stream(now.lapsed).sum(), now.curtains,
                piece == null ? NONE : now.time - piece.end(), piece == null ? NONE : piece.performer(),
                now.paidSet(), suspects, suspects & now.paidSet(), now.settings[0], now.settings[1], now.settings[2],
                now.settings[3], now.settings[4], now.settings[5], pad.length(), history.size()}[what];
        }

        int quietIn(int applause) {
            if (applause < 0 || applause > 9999) {
                return BAD_VALUE;
            }
            State trial = now.copy();
            int seconds = 0;
            while (trial.applause > applause) {
                trial.second();
                seconds++;
            }
            return seconds;
        }

        int clapsFor(int seat) {
            if (seat < 0 || seat > 29) {
                return NO_SUCH;
            }
            if (now.piece == null || now.piece.encoreCame()[0]) {
                return NOT_POSSIBLE;
            }
            State trial = now.copy();
            int claps = 0;
            while (!trial.piece.encoreCame()[0]) {
                trial.clap(seat);
                claps++;
            }
            return claps;
        }

        int lapsesIn(int performer) {
            if (performer < 0 || performer > 5) {
                return NO_SUCH;
            }
            int owed = now.owedBy(performer);
            if (owed == 0) {
                return NONE;
            }
            State trial = now.copy();
            while (trial.owedBy(performer) == owed) {
                trial.second();
            }
            return trial.time - now.time;
        }

        int calls() {
            State trial = now.copy();
            int calls = 0;
            while (trial.call() >= 0) {
                calls++;
            }
            return calls;
        }

        int put(long characters) {
            StringBuilder text = new StringBuilder();
            for (int shift = 56; shift >= 0; shift -= 8) {
                int code = (int) (characters >> shift) & 255;
                if (code == 0 && text.length() == 0) {
                    continue;
                }
                if (code < 33 || code > 126) {
                    return BAD_VALUE;
                }
                text.append((char) code);
            }
            if (text.length() == 0) {
                return BAD_VALUE;
            }
            if (pad.length() + text.length() > 80) {
                return TOO_MANY;
            }
            pad += text;
            return pad.length();
        }

        int wipe() {
            int length = pad.length();
            pad = "";
            return length;
        }

        int carryOut() {
            if (faultOf(pad) != NONE) {
                return BAD_TEXT;
            }
            String text = pad;
            pad = "";
            return change(s -> {
                int done = 0;
                for (String order : text.split(";")) {
                    String[] parts = order.substring(1).split("\\*");
                    int number = parts[0].isEmpty() ? 0 : Integer.parseInt(parts[0]);
                    int times = parts.length < 2 ? 1 : Integer.parseInt(parts[1]);
                    for (int i = 0; i < times; i++) {
                        if (s.order(order.charAt(0), number) < 0) {
                            return done;
                        }
                        done++;
                    }
                }
                return done;
            });
        }

        int undo() {
            if (history.isEmpty()) {
                return NOT_POSSIBLE;
            }
            now = history.removeLast();
            return history.size();
        }

        int save(int slot) {
            if (slot < 0 || slot > 1) {
                return BAD_VALUE;
            }
            slots[slot] = now.copy();
            return now.records.size();
        }

        int restore(int slot) {
            if (slot < 0 || slot > 1) {
                return BAD_VALUE;
            }
            if (slots[slot] == null) {
                return NOT_POSSIBLE;
            }
            State saved = slots[slot].copy();
            history.addLast(now);
            if (history.size() > 6) {
                history.removeFirst();
            }
            now = saved;
            return saved.records.size();
        }
    }

    /** A generator of its own, so that every run is the same. */
    private static long seed;

    private static int below(int bound) {
        seed = seed * 6364136223846793005L + 1442695040888963407L;
        return (int) ((seed >>> 33) % bound);
    }

    private static int between(int least, int most) {
        return least + below(most - least + 1);
    }

    /** Mostly a number in the range, now and then one at its edges or far outside. */
    private static int about(int least, int most) {
        if (below(20) != 0) {
            return between(least, most);
        }
        int[] edges = {least - 1, least, most, most + 1, Integer.MIN_VALUE, Integer.MAX_VALUE, -1, 0, 31, 32};
        return edges[below(edges.length)];
    }

    private static int seatLike() {
        return below(3) > 0 ? below(4) : about(0, 29);
    }

    private static String numberLike() {
        return below(15) == 0 ? "0" + below(100) : String.valueOf(below(40) == 0 ? below(200) : below(30));
    }

    private static String orderLike() {
        switch (below(12)) {
            case 0:
            case 1:
                return "e" + below(below(12) == 0 ? 10 : 6);
            case 2:
            case 3:
            case 4:
                return "c" + numberLike();
            case 5:
            case 6:
                return "c" + below(30) + "*" + (below(6) == 0 ? between(0, 120) : between(0, 12));
            case 7:
                return "w" + numberLike();
            case 8:
                return "p" + below(6);
            case 9:
                return "k";
            case 10:
                return below(4) == 0 ? "n" : "k";
            default:
                return "h" + numberLike();
        }
    }

    private static String textLike() {
        StringBuilder text = new StringBuilder();
        int orders = between(1, 12);
        for (int i = 0; i < orders; i++) {
            text.append(i == 0 ? "" : ";").append(orderLike());
        }
        if (below(8) == 0) {
            text.setCharAt(below(text.length()), "ecwpknh;*0123456789x,:~!".charAt(below(24)));
        }
        if (below(12) == 0) {
            text.append(";");
        }
        return text.toString();
    }

    private static final String[] NAMES = {"set", "loud", "pay", "ends", "clap", "pass", "play", "call", "night",
        "write", "of", "performer", "owed", "clapper", "record", "sign", "count", "quietIn", "clapsFor", "lapsesIn",
        "calls", "ifFound", "put", "wipe", "fault", "carryOut", "undo", "save", "restore"};
    private static final int[] WEIGHTS = {8, 4, 4, 14, 60, 12, 10, 8, 2, 2, 14, 8, 8, 5, 5, 5, 30, 6, 10, 6, 5, 4, 0, 1,
        4, 4, 8, 2, 2};

    private static String pick() {
        int sum = 0;
        for (int weight : WEIGHTS) {
            sum += weight;
        }
        int left = below(sum);
        for (int i = 0; i < NAMES.length; i++) {
            left -= WEIGHTS[i];
            if (left < 0) {
                return NAMES[i];
            }
        }
        return "count";
    }

    private static int settingLike(int setting) {
        switch (setting) {
            case DECAY:
                return about(1, 50);
            case ENCORE:
                return below(4) > 0 ? about(20, 90) : about(20, 900);
            case LAPSE:
                return below(2) > 0 ? about(1, 20) : about(1, 300);
            case EARLY:
                return about(0, 9);
            case FOUND:
                return about(1, 9);
            default:
                return below(2) > 0 ? about(1, 50) : about(1, 900);
        }
    }

    private static int wrong = 0;
    private static long compared = 0;

    private static void due(int run, String call, int got, int want) {
        compared++;
        if (got != want) {
            wrong++;
            if (wrong <= 20) {
                System.out.println("run " + run + ": " + call + " answered " + got + ", due is " + want);
            }
        }
    }

    private static void step(int run, ApplauseTallies x, Model m) {
        String name = pick();
        int a;
        int b;
        switch (name) {
            case "set":
                a = about(0, 5);
                b = settingLike(a);
                due(run, "set(" + a + ", " + b + ")", x.set(a, b), m.set(a, b));
                break;
            case "loud":
                a = seatLike();
                b = about(1, 9);
                due(run, "loud(" + a + ", " + b + ")", x.loud(a, b), m.loud(a, b));
                break;
            case "of":
                a = seatLike();
                b = about(0, 6);
                due(run, "of(" + a + ", " + b + ")", x.of(a, b), m.of(a, b));
                break;
            case "performer":
                a = about(0, 5);
                b = about(0, 3);
                due(run, "performer(" + a + ", " + b + ")", x.performer(a, b), m.performer(a, b));
                break;
            case "owed":
                a = about(0, 7);
                b = about(0, 1);
                due(run, "owed(" + a + ", " + b + ")", x.owed(a, b), m.owed(a, b));
                break;
            case "record":
                a = about(0, 5);
                b = about(0, 3);
                due(run, "record(" + a + ", " + b + ")", x.record(a, b), m.record(a, b));
                break;
            default:
                stepOfOne(run, name, x, m);
                break;
        }
    }

    private static void stepOfOne(int run, String name, ApplauseTallies x, Model m) {
        int a = argument(name);
        String call = name + "(" + a + ")";
        switch (name) {
            case "pay":
                due(run, call, x.pay(a), m.change(s -> s.pay(a)));
                break;
            case "ends":
                due(run, call, x.ends(a), m.change(s -> s.ends(a)));
                break;
            case "clap":
                due(run, call, x.clap(a), m.change(s -> s.clap(a)));
                break;
            case "pass":
                due(run, call, x.pass(a), m.change(s -> s.pass(a)));
                break;
            case "play":
                due(run, call, x.play(a), m.change(s -> s.play(a)));
                break;
            case "call":
                due(run, call, x.call(), m.change(State::call));
                break;
            case "night":
                due(run, call, x.night(), m.change(State::night));
                break;
            case "write":
                m.pad = m.now.bill();
                due(run, call, x.write(), m.pad.length());
                break;
            case "clapper":
                due(run, call, x.clapper(a), m.clapper(a));
                break;
            case "sign":
                due(run, call, x.sign(a), a >= 0 && a < m.pad.length() ? m.pad.charAt(a) : NO_SUCH);
                break;
            case "count":
                due(run, call, x.count(a), m.count(a));
                break;
            case "quietIn":
                due(run, call, x.quietIn(a), m.quietIn(a));
                break;
            case "clapsFor":
                due(run, call, x.clapsFor(a), m.clapsFor(a));
                break;
            case "lapsesIn":
                due(run, call, x.lapsesIn(a), m.lapsesIn(a));
                break;
            default:
                stepOfTexts(run, name, a, x, m);
                break;
        }
    }

    private static void stepOfTexts(int run, String name, int a, ApplauseTallies x, Model m) {
        String call = name + "(" + a + ")";
        switch (name) {
            case "calls":
                due(run, call, x.calls(), m.calls());
                break;
            case "ifFound":
                due(run, call, x.ifFound(a), a < 1 || a > 9 ? BAD_VALUE : m.now.suspects(a));
                break;
            case "wipe":
                due(run, call, x.wipe(), m.wipe());
                break;
            case "fault":
                due(run, call, x.fault(), faultOf(m.pad));
                break;
            case "carryOut":
                due(run, call + " of " + m.pad, x.carryOut(), m.carryOut());
                break;
            case "undo":
                due(run, call, x.undo(), m.undo());
                break;
            case "save":
                due(run, call, x.save(a), m.save(a));
                break;
            default:
                due(run, call, x.restore(a), m.restore(a));
                break;
        }
    }

    private static int argument(String name) {
        switch (name) {
            case "pay":
            case "clap":
            case "clapsFor":
                return seatLike();
            case "ends":
            case "play":
            case "lapsesIn":
                return about(0, 5);
            case "pass":
                return below(3) > 0 ? about(1, 6) : about(1, 99);
            case "clapper":
                return about(0, 6);
            case "sign":
                return about(0, 79);
            case "count":
                return about(0, 20);
            case "quietIn":
                return below(2) > 0 ? about(0, 200) : about(0, 9999);
            case "ifFound":
                return about(1, 9);
            default:
                return about(0, 1);
        }
    }

    /** Puts a text in chunks, as often as calls are left, and asks about it or carries it out. */
    private static int stepsOfOrders(int run, ApplauseTallies x, Model m, int left) {
        String text = textLike();
        int calls = 0;
        if (below(4) > 0 && left > 0) {
            due(run, "wipe()", x.wipe(), m.wipe());
            calls++;
        }
        for (int from = 0; from < text.length() && calls < left;) {
            int to = Math.min(text.length(), from + between(1, 8));
            long number = below(30) == 0 ? 1L << below(64) : 0;
            for (char sign : text.substring(from, to).toCharArray()) {
                number = number << 8 | sign;
            }
            due(run, "put(" + number + ")", x.put(number), m.put(number));
            calls++;
            from = to;
        }
        if (calls < left && below(3) == 0) {
            due(run, "fault() of " + m.pad, x.fault(), faultOf(m.pad));
            calls++;
        }
        if (calls < left) {
            due(run, "carryOut() of " + m.pad, x.carryOut(), m.carryOut());
            calls++;
        }
        return calls;
    }

    public static void main(String[] args) {
        for (int run = 0; run < RUNS; run++) {
            seed = run * 7919L + 12345;
            ApplauseTallies x = new ApplauseTallies();
            Model m = new Model();
            int calls = 0;
            while (calls < CALLS) {
                if (below(40) == 0) {
                    calls += stepsOfOrders(run, x, m, CALLS - calls);
                } else {
                    step(run, x, m);
                    calls++;
                }
            }
        }
        System.out.println(compared + " answers compared in " + RUNS + " runs, " + wrong + " wrong");
        if (wrong != 0) {
            System.exit(1);
        }
    }
}
