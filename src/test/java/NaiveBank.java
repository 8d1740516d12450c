import java.util.ArrayDeque;
import java.util.ArrayList;
import java.util.Deque;
import java.util.HashMap;
import java.util.List;
import java.util.Map;
import java.util.NoSuchElementException;
import java.util.TreeMap;
import java.util.function.ToIntFunction;

/** The document told once more in the plainest way, with piles as lists and trees as functions: the tests' measure. */
final class NaiveBank {
    static final int NONE = -1;

    static final class Fault extends Exception {
        private static final long serialVersionUID = 1L;
        final int kind;
        final int place;

        Fault(int kind, int place) {
            this.kind = kind;
            this.place = place;
        }
    }

    record Token(String text, int place) { }

    record House(int coins) { }

    record Wink(int house, int size, int cell) { }

    record Cup(int cell, int pays) { }

    interface Step {
        void go(Run run);
    }

    static final class Run {
        int begun;
        int done;
        int refused;

        void note(boolean fine) {
            if (fine) {
                done++;
            } else {
                refused++;
            }
        }
    }

    /** All that PLAY changes. */
    static final class State {
        List<Integer> coins = new ArrayList<>();
        List<Integer> shots = new ArrayList<>();
        List<List<Integer>> piles = new ArrayList<>();
        List<List<Integer>> inCups = new ArrayList<>();
        List<Integer> floor = new ArrayList<>();
        int day;
        int damp;

        State copy() {
            State s = new State();
            s.coins.addAll(coins);
            s.shots.addAll(shots);
            for (List<Integer> pile : piles) {
                s.piles.add(new ArrayList<>(pile));
            }
            for (List<Integer> in : inCups) {
                s.inCups.add(new ArrayList<>(in));
            }
            s.floor.addAll(floor);
            s.day = day;
            s.damp = damp;
            return s;
        }
    }

    record Picture(State state, List<State> plays) { }

    List<Integer> tape = new ArrayList<>();
    List<House> houses = new ArrayList<>();
    List<Wink> winks = new ArrayList<>();
    List<Cup> cups = new ArrayList<>();
    int felt = 12;
    int nap = 3;
    ToIntFunction<Map<String, Integer>> rule = plainRule();
    Map<Integer, Integer> lines = new TreeMap<>();
    State state = new State();
    List<State> plays = new ArrayList<>();
    Deque<Picture> pictures = new ArrayDeque<>();
    int refused;
    int faultPlace = NONE;
    int noSuch;
    int illegal;

    NaiveBank() {
        begin();
    }

    static ToIntFunction<Map<String, Integer>> plainRule() {
        return m -> m.get("press") * 2 + m.get("under") - m.get("nap") - m.get("damp");
    }

    void begin() {
        state = new State();
        for (House h : houses) {
            state.coins.add(h.coins());
        }
        for (int x = 0; x < felt; x++) {
            state.piles.add(new ArrayList<>());
        }
        for (int w = 0; w < winks.size(); w++) {
            state.shots.add(0);
            state.piles.get(winks.get(w).cell()).add(w);
        }
        for (int c = 0; c < cups.size(); c++) {
            state.inCups.add(new ArrayList<>());
        }
    }

    // ---- reading ----

    static final class Reader {
        final List<Token> tokens = new ArrayList<>();
        int next;

        Reader(List<Integer> bytes) {
            int i = 0;
            while (i < bytes.size()) {
                int b = bytes.get(i);
                int from = i;
                if (b == 32) {
                    i++;
                    continue;
                }
                if (digit(b)) {
                    while (i < bytes.size() && digit(bytes.get(i))) {
                        i++;
                    }
                } else if (letter(b)) {
                    while (i < bytes.size() && letter(bytes.get(i))) {
                        i++;
                    }
                } else {
                    i++;
                }
                StringBuilder s = new StringBuilder();
                for (int k = from; k < i; k++) {
                    s.append((char) (int) bytes.get(k));
                }
                tokens.add(new Token(s.toString(), from));
            }
            tokens.add(new Token("", bytes.size()));
        }

        static boolean digit(int b) {
            return b >= '0' && b <= '9';
        }

        static boolean letter(int b) {
            return b >= 'a' && b <= 'z';
        }

        Token peek() {
            return tokens.get(next);
        }

        boolean ended() {
            return peek().text().isEmpty();
        }

        boolean sees(String s) {
            return peek().text().equals(s);
        }

        Token take() {
            Token t = peek();
            if (!ended()) {
                next++;
            }
            return t;
        }

        void want(String s) throws Fault {
            Token t = take();
            if (!t.text().equals(s)) {
                throw new Fault(1, t.place());
            }
        }

        int number(int least, int most) throws Fault {
            Token t = take();
            if (t.text().isEmpty() || !digit(t.text().charAt(0))) {
                throw new Fault(1, t.place());
            }
            java.math.BigInteger v = new java.math.BigInteger(t.text());
            if (v.bitLength() > 30 || v.intValue() < least || v.intValue() > most) {
                throw new Fault(2, t.place());
            }
            return v.intValue();
        }
    }

    List<Integer> takeText(int n, int most) {
        need(n >= 0 && n <= tape.size() && n <= most);
        List<Integer> bytes = new ArrayList<>(tape.subList(0, n));
        tape.clear();
        faultPlace = NONE;
        return bytes;
    }

    int faulted(Fault f) {
        faultPlace = f.place;
        return f.kind - 10;
    }

    int feed(int a, int b, int c, int d, int e) {
        if (tape.size() > 580) {
            return NONE;
        }
        for (int four : new int[] {a, b, c, d, e}) {
            tape.add(four >>> 24);
            tape.add(four >>> 16 & 255);
            tape.add(four >>> 8 & 255);
            tape.add(four & 255);
        }
        return tape.size();
    }

    int room(int n) {
        List<Integer> bytes = takeText(n, 600);
        List<House> hs = new ArrayList<>();
        List<Wink> ws = new ArrayList<>();
        List<Cup> cs = new ArrayList<>();
        int[] feltNap = {12, 3};
        try {
            Reader r = new Reader(bytes);
            int clauses = 0;
            while (!r.ended()) {
                Token word = r.take();
                boolean more = clauses++ < 60;
                clause(r, word, more, hs, ws, cs, feltNap);
                r.want(";");
            }
            for (Wink w : ws) {
                if (w.cell() >= feltNap[0]) {
                    throw new Fault(4, n);
                }
            }
            for (Cup c : cs) {
                if (c.cell() >= feltNap[0]) {
                    throw new Fault(4, n);
                }
            }
        } catch (Fault f) {
            return faulted(f);
        }
        houses = hs;
        winks = ws;
        cups = cs;
        felt = feltNap[0];
        nap = feltNap[1];
        rule = plainRule();
        lines = new TreeMap<>();
        plays = new ArrayList<>();
        pictures.clear();
        refused = 0;
        begin();
        return winks.size();
    }

    static void clause(Reader r, Token word, boolean more, List<House> hs, List<Wink> ws, List<Cup> cs, int[] feltNap)
            throws Fault {
        switch (word.text()) {
            case "house":
                most(more && hs.size() < 5, word);
                hs.add(new House(r.number(0, 999)));
                break;
            case "felt":
                most(more, word);
                feltNap[0] = r.number(4, 30);
                break;
            case "nap":
                most(more, word);
                feltNap[1] = r.number(0, 9);
                break;
            case "wink":
                most(more && ws.size() < 10, word);
                int h = r.number(0, hs.size() - 1);
                int s = r.number(1, 9);
                ws.add(new Wink(h, s, r.number(0, 29)));
                break;
            case "cup":
                most(more && cs.size() < 4, word);
                Token at = r.peek();
                int x = r.number(0, 29);
                for (Cup c : cs) {
                    if (c.cell() == x) {
                        throw new Fault(2, at.place());
                    }
                }
                cs.add(new Cup(x, r.number(1, 99)));
                break;
            default:
                throw new Fault(1, word.place());
        }
    }

    static void most(boolean fine, Token word) throws Fault {
        if (!fine) {
            throw new Fault(3, word.place());
        }
    }

    int law(int n) {
        List<Integer> bytes = takeText(n, 150);
        try {
            Reader r = new Reader(bytes);
            ToIntFunction<Map<String, Integer>> f = sum(r, 0);
            if (!r.ended()) {
                throw new Fault(1, r.peek().place());
            }
            rule = f;
            return 1;
        } catch (Fault f) {
            return faulted(f);
        }
    }

    static ToIntFunction<Map<String, Integer>> sum(Reader r, int open) throws Fault {
        ToIntFunction<Map<String, Integer>> left = product(r, open);
        while (r.sees("+") || r.sees("-")) {
            boolean plus = r.take().text().equals("+");
            ToIntFunction<Map<String, Integer>> a = left;
            ToIntFunction<Map<String, Integer>> b = product(r, open);
            left = plus ? m -> a.applyAsInt(m) + b.applyAsInt(m) : m -> a.applyAsInt(m) - b.applyAsInt(m);
        }
        return left;
    }

    static ToIntFunction<Map<String, Integer>> product(Reader r, int open) throws Fault {
        ToIntFunction<Map<String, Integer>> left = unit(r, open);
        while (r.sees("*") || r.sees("/")) {
            boolean times = r.take().text().equals("*");
            ToIntFunction<Map<String, Integer>> a = left;
            ToIntFunction<Map<String, Integer>> b = unit(r, open);
            left = times ? m -> a.applyAsInt(m) * b.applyAsInt(m)
                : m -> b.applyAsInt(m) == 0 ? 0 : a.applyAsInt(m) / b.applyAsInt(m);
        }
        return left;
    }

    static final List<String> NAMES =
        List.of("press", "size", "nap", "damp", "under", "shots", "cell", "day", "coins");

    static ToIntFunction<Map<String, Integer>> unit(Reader r, int open) throws Fault {
        Token t = r.peek();
        if (!t.text().isEmpty() && Reader.digit(t.text().charAt(0))) {
            int v = r.number(0, 999);
            return m -> v;
        }
        r.take();
        if (NAMES.contains(t.text())) {
            return m -> m.get(t.text());
        }
        if (t.text().equals("(")) {
            most(open < 6, t);
            ToIntFunction<Map<String, Integer>> f = sum(r, open + 1);
            r.want(")");
            return f;
        }
        if (t.text().equals("least") || t.text().equals("most")) {
            most(open < 6, t);
            r.want("[");
            ToIntFunction<Map<String, Integer>> a = sum(r, open + 1);
            r.want(",");
            ToIntFunction<Map<String, Integer>> b = sum(r, open + 1);
            r.want("]");
            return t.text().equals("least") ? m -> Math.min(a.applyAsInt(m), b.applyAsInt(m))
                : m -> Math.max(a.applyAsInt(m), b.applyAsInt(m));
        }
        throw new Fault(1, t.place());
    }

    int play(int n) {
        List<Integer> bytes = takeText(n, 150);
        if (plays.size() == 16) {
            return -20;
        }
        try {
            Reader r = new Reader(bytes);
            List<Step> steps = new ArrayList<>();
            while (!r.ended()) {
                steps.add(step(r, 0));
                r.want(";");
            }
            plays.add(state.copy());
            Run run = new Run();
            goAll(steps, run);
            refused = run.refused;
            return run.done;
        } catch (Fault f) {
            return faulted(f);
        }
    }

    static void goAll(List<Step> steps, Run run) {
        for (Step s : steps) {
            if (run.begun == 200) {
                return;
            }
            run.begun++;
            s.go(run);
        }
    }

    Step step(Reader r, int open) throws Fault {
        Token t = r.take();
        switch (t.text()) {
            case "flick":
            case "back": {
                int w = r.number(0, winks.size() - 1);
                int p = r.number(1, 9);
                return run -> run.note(flick(w, p, t.text().equals("flick") ? 1 : -1));
            }
            case "damp": {
                int d = r.number(0, 9);
                return run -> {
                    run.note(state.damp != d);
                    state.damp = d;
                };
            }
            case "shake":
                return run -> run.note(shake());
            case "day":
                return run -> {
                    run.note(state.day < 500);
                    if (state.day < 500) {
                        rent();
                    }
                };
            case "again": {
                most(open < 6, t);
                int many = r.number(0, 30);
                r.want("[");
                List<Step> body = new ArrayList<>();
                while (!r.sees("]")) {
                    body.add(step(r, open + 1));
                    r.want(";");
                }
                r.want("]");
                return run -> {
                    for (int i = 0; i < many; i++) {
                        goAll(body, run);
                    }
                };
            }
            default:
                throw new Fault(1, t.place());
        }
    }

    int book(int n) {
        List<Integer> bytes = takeText(n, 100);
        try {
            Reader r = new Reader(bytes);
            Map<Integer, Integer> read = new TreeMap<>();
            while (!r.ended()) {
                Token at = r.peek();
                int p = r.number(1, 9);
                if (read.containsKey(p)) {
                    throw new Fault(2, at.place());
                }
                read.put(p, r.number(0, 60));
                r.want(";");
            }
            lines = read;
            return lines.size();
        } catch (Fault f) {
            return faulted(f);
        }
    }

    int fault() {
        return faultPlace;
    }

    // ---- moves ----

    int cellOf(int w) {
        for (int x = 0; x < felt; x++) {
            if (state.piles.get(x).contains(w)) {
                return x;
            }
        }
        return state.floor.contains(w) ? -2 : -3;
    }

    int underOf(int w) {
        int x = cellOf(w);
        return x < 0 ? 0 : state.piles.get(x).indexOf(w);
    }

    int onOf(int w) {
        int x = cellOf(w);
        return x < 0 ? 0 : state.piles.get(x).size() - 1 - state.piles.get(x).indexOf(w);
    }

    boolean canFlick(int w) {
        return cellOf(w) >= 0 && onOf(w) == 0;
    }

    int cupAt(int x) {
        for (int c = 0; c < cups.size(); c++) {
            if (cups.get(c).cell() == x) {
                return c;
            }
        }
        return NONE;
    }

    Map<String, Integer> seen(int w, int press) {
        Map<String, Integer> m = new HashMap<>();
        m.put("press", press);
        m.put("size", winks.get(w).size());
        m.put("nap", nap);
        m.put("damp", state.damp);
        m.put("under", underOf(w));
        m.put("shots", state.shots.get(w));
        m.put("cell", cellOf(w));
        m.put("day", state.day);
        m.put("coins", state.coins.get(winks.get(w).house()));
        return m;
    }

    int far(Map<String, Integer> m) {
        return Math.max(0, Math.min(60, rule.applyAsInt(m)));
    }

    int farOf(int w, int press) {
        return cellOf(w) < 0 ? 0 : far(seen(w, press));
    }

    /** Answers the CUP. */
    int go(int w, int by) {
        if (by == 0) {
            return NONE;
        }
        int x = cellOf(w);
        state.piles.get(x).remove((Integer) w);
        int to = x + by;
        if (to < 0 || to >= felt) {
            state.floor.add(w);
            return NONE;
        }
        int c = cupAt(to);
        if (c == NONE) {
            state.piles.get(to).add(w);
        } else {
            state.inCups.get(c).add(w);
        }
        return c;
    }

    boolean flick(int w, int press, int side) {
        int h = winks.get(w).house();
        if (!canFlick(w) || state.coins.get(h) == 0) {
            return false;
        }
        int f = farOf(w, press);
        state.coins.set(h, state.coins.get(h) - 1);
        state.shots.set(w, state.shots.get(w) + 1);
        int c = go(w, side * f);
        if (c != NONE) {
            state.coins.set(h, Math.min(9999, state.coins.get(h) + cups.get(c).pays()));
        }
        return true;
    }

    boolean shake() {
        List<Integer> free = new ArrayList<>();
        for (int w = 0; w < winks.size(); w++) {
            if (canFlick(w)) {
                free.add(w);
            }
        }
        for (int w : free) {
            go(w, 1);
        }
        return !free.isEmpty();
    }

    void rent() {
        for (int w = 0; w < winks.size(); w++) {
            if (onOf(w) > 0) {
                List<Integer> pile = state.piles.get(cellOf(w));
                int from = winks.get(w).house();
                int to = winks.get(pile.get(pile.size() - 1)).house();
                if (state.coins.get(from) > 0) {
                    state.coins.set(from, state.coins.get(from) - 1);
                    state.coins.set(to, Math.min(9999, state.coins.get(to) + 1));
                }
            }
        }
        state.day++;
    }

    // ---- asked ----

    int told(int what) {
        need(what >= 0 && what <= 11);
        int frozen = 0;
        int in = 0;
        int floor = 0;
        for (int w = 0; w < winks.size(); w++) {
            frozen += onOf(w) > 0 ? 1 << w : 0;
            in += cellOf(w) == -3 ? 1 << w : 0;
            floor += cellOf(w) == -2 ? 1 << w : 0;
        }
        int[] all = {houses.size(), winks.size(), cups.size(), state.day, state.damp, frozen, in, floor,
            lines.size(), refused, felt, nap};
        return all[what];
    }

    int house(int h, int what) {
        there(h, houses.size());
        need(what >= 0 && what <= 2);
        int own = 0;
        int free = 0;
        for (int w = 0; w < winks.size(); w++) {
            if (winks.get(w).house() == h) {
                own += 1 << w;
                free += canFlick(w) ? 1 << w : 0;
            }
        }
        return new int[] {state.coins.get(h), own, free}[what];
    }

    int wink(int w, int what) {
        there(w, winks.size());
        need(what >= 0 && what <= 5);
        return new int[] {winks.get(w).house(), winks.get(w).size(), cellOf(w), state.shots.get(w), underOf(w),
            onOf(w)}[what];
    }

    int cup(int c, int what) {
        there(c, cups.size());
        need(what >= 0 && what <= 2);
        return new int[] {cups.get(c).cell(), cups.get(c).pays(), state.inCups.get(c).size()}[what];
    }

    int cell(int x, int what) {
        there(x, felt);
        need(what >= 0 && what <= 3);
        List<Integer> pile = state.piles.get(x);
        boolean none = pile.isEmpty();
        return new int[] {pile.size(), none ? NONE : pile.get(pile.size() - 1), none ? NONE : pile.get(0),
            cupAt(x)}[what];
    }

    int flies(int w, int press) {
        there(w, winks.size());
        need(press >= 1 && press <= 9);
        return farOf(w, press);
    }

    int would(int press, int size, int n, int damp, int under, int shots, int cell, int day, int coins) {
        need(press >= 1 && press <= 9 && size >= 1 && size <= 9 && n >= 0 && n <= 9 && damp >= 0 && damp <= 9
            && under >= 0 && under <= 9 && shots >= 0 && shots <= 99 && cell >= 0 && cell <= 29
            && day >= 0 && day <= 500 && coins >= 0 && coins <= 9999);
        Map<String, Integer> m = new HashMap<>();
        int[] values = {press, size, n, damp, under, shots, cell, day, coins};
        for (int i = 0; i < 9; i++) {
            m.put(NAMES.get(i), values[i]);
        }
        return far(m);
    }

    int downOf(int w, int press, int how) {
        if (!canFlick(w)) {
            return -3;
        }
        int to = cellOf(w) + (how == 0 ? 1 : -1) * farOf(w, press);
        return to < 0 || to >= felt ? -2 : to;
    }

    int down(int w, int press, int how) {
        there(w, winks.size());
        need(press >= 1 && press <= 9 && (how == 0 || how == 1));
        return downOf(w, press, how);
    }

    int cupBy(int w, int press, int how) {
        int to = downOf(w, press, how);
        return to < 0 || farOf(w, press) == 0 ? NONE : cupAt(to);
    }

    int paidBy(int w, int press, int how) {
        int c = cupBy(w, press, how);
        return c == NONE ? 0 : cups.get(c).pays();
    }

    int presses(int w, int how) {
        there(w, winks.size());
        need(how == 0 || how == 1);
        int bits = 0;
        for (int p = 1; p <= 9; p++) {
            bits += cupBy(w, p, how) == NONE ? 0 : 1 << (p - 1);
        }
        return bits;
    }

    int gain(int h, int what) {
        there(h, houses.size());
        need(what == 0 || what == 1);
        TreeMap<Integer, Integer> firsts = new TreeMap<>();
        for (int w = 0; w < winks.size(); w++) {
            for (int p = 1; p <= 9; p++) {
                for (int how = 0; how < 2; how++) {
                    if (winks.get(w).house() == h && canFlick(w)) {
                        firsts.putIfAbsent(paidBy(w, p, how), 100 * w + 10 * p + how);
                    }
                }
            }
        }
        if (firsts.isEmpty()) {
            return what == 0 ? 0 : NONE;
        }
        return what == 0 ? firsts.lastKey() : firsts.lastEntry().getValue();
    }

    /** The fewest flicks from a CELL with so many left; 99: none. */
    int fewest(int w, int x, int left, Map<Integer, Integer> known) {
        if (left == 0) {
            return 99;
        }
        Integer before = known.get(x * 100 + left);
        if (before != null) {
            return before;
        }
        int best = 99;
        for (int p = 1; p <= 9; p++) {
            for (int how = 0; how < 2; how++) {
                best = Math.min(best, fewestBy(w, x, p, how, left, known));
            }
        }
        known.put(x * 100 + left, best);
        return best;
    }

    int fewestBy(int w, int x, int p, int how, int left, Map<Integer, Integer> known) {
        Map<String, Integer> m = seen(w, p);
        List<Integer> others = new ArrayList<>(state.piles.get(x));
        others.remove((Integer) w);
        m.put("cell", x);
        m.put("under", others.size());
        int f = far(m);
        int to = how == 0 ? x + f : x - f;
        if (f == 0 || to < 0 || to >= felt) {
            return 99;
        }
        return cupAt(to) != NONE ? 1 : 1 + fewest(w, to, left - 1, known);
    }

    int way(int w, int what) {
        there(w, winks.size());
        need(what == 0 || what == 1);
        if (!canFlick(w)) {
            return NONE;
        }
        Map<Integer, Integer> known = new HashMap<>();
        int best = fewest(w, cellOf(w), felt, known);
        if (best > felt) {
            return NONE;
        }
        if (what == 0) {
            return best;
        }
        for (int p = 1; p <= 9; p++) {
            for (int how = 0; how < 2; how++) {
                if (fewestBy(w, cellOf(w), p, how, felt, known) == best) {
                    return 10 * p + how;
                }
            }
        }
        throw new AssertionError();
    }

    int fraction(int w, int press, int q, int part, boolean paid) {
        there(w, winks.size());
        need(press >= 1 && press <= 9 && q >= 0 && q <= 16 && (part == 0 || part == 1));
        int above = 0;
        for (int i = 0; i < 32; i++) {
            int p = i < 2 * q ? press : (i - 2 * q) % 2 == 0 ? Math.max(1, press - 1) : Math.min(9, press + 1);
            int v = paidBy(w, p, 0);
            above += paid ? v : v > 0 ? 1 : 0;
        }
        int g = java.math.BigInteger.valueOf(above).gcd(java.math.BigInteger.valueOf(32)).intValue();
        return part == 0 ? above / g : 32 / g;
    }

    int odds(int w, int press, int q, int part) {
        return fraction(w, press, q, part, false);
    }

    int mean(int w, int press, int q, int part) {
        return fraction(w, press, q, part, true);
    }

    int[] best;
    int bestSum;

    void tryGive(int c, int[] given, int used, int sum, List<List<Integer>> comers) {
        if (c == cups.size()) {
            if (best == null || sum > bestSum) {
                best = given.clone();
                bestSum = sum;
            }
            return;
        }
        for (int w : comers.get(c)) {
            if ((used >> w & 1) == 0) {
                given[c] = w;
                tryGive(c + 1, given, used | 1 << w, sum + cups.get(c).pays(), comers);
            }
        }
        given[c] = NONE;
        tryGive(c + 1, given, used, sum, comers);
    }

    int match() {
        List<List<Integer>> comers = new ArrayList<>();
        for (int c = 0; c < cups.size(); c++) {
            comers.add(new ArrayList<>());
            for (int w = 0; w < winks.size(); w++) {
                boolean comes = false;
                for (int p = 1; p <= 9; p++) {
                    comes |= cupBy(w, p, 0) == c || cupBy(w, p, 1) == c;
                }
                if (comes) {
                    comers.get(c).add(w);
                }
            }
        }
        best = null;
        tryGive(0, new int[cups.size()], 0, 0, comers);
        return bestSum;
    }

    int matched(int c) {
        there(c, cups.size());
        match();
        return best[c];
    }

    List<Integer> pairs(int w, Map<Integer, Integer> wanted) {
        List<Integer> fit = new ArrayList<>();
        for (int n = 0; n < 10; n++) {
            for (int d = 0; d < 10; d++) {
                boolean right = true;
                for (Map.Entry<Integer, Integer> line : wanted.entrySet()) {
                    right &= farAsIf(w, line.getKey(), n, d) == line.getValue();
                }
                if (right) {
                    fit.add(10 * n + d);
                }
            }
        }
        return fit;
    }

    int farAsIf(int w, int press, int n, int d) {
        if (cellOf(w) < 0) {
            return 0;
        }
        Map<String, Integer> m = seen(w, press);
        m.put("nap", n);
        m.put("damp", d);
        return far(m);
    }

    int fits(int w, int what) {
        there(w, winks.size());
        need(what == 0 || what == 1);
        List<Integer> fit = pairs(w, lines);
        return what == 0 ? fit.size() : fit.isEmpty() ? NONE : fit.get(0);
    }

    int look(int w, int what) {
        there(w, winks.size());
        need(what == 0 || what == 1);
        List<Integer> fit = pairs(w, lines);
        int press = NONE;
        int left = NONE;
        for (int p = 1; p <= 9; p++) {
            if (lines.containsKey(p)) {
                continue;
            }
            Map<Integer, Integer> byFar = new HashMap<>();
            int worst = 0;
            for (int pair : fit) {
                worst = Math.max(worst, byFar.merge(farAsIf(w, p, pair / 10, pair % 10), 1, Integer::sum));
            }
            if (press == NONE || worst < left) {
                press = p;
                left = worst;
            }
        }
        return what == 0 ? press : left;
    }

    int duel(int a, int b, int what) {
        there(a, winks.size());
        there(b, winks.size());
        need(what >= 0 && what <= 2 && a != b && canFlick(a) && canFlick(b));
        int[][] one = new int[10][10];
        int[][] other = new int[10][10];
        for (int p = 1; p <= 9; p++) {
            for (int q = 1; q <= 9; q++) {
                one[p][q] = paidBy(a, p, 0);
                other[p][q] = paidBy(b, q, 0);
                int x = downOf(a, p, 0);
                if (x >= 0 && x == downOf(b, q, 0) && cupAt(x) == NONE) {
                    one[p][q] += a < b ? -1 : 1;
                    other[p][q] += a < b ? 1 : -1;
                }
            }
        }
        int rests = 0;
        int first = NONE;
        int sum = 0;
        for (int p = 1; p <= 9; p++) {
            for (int q = 1; q <= 9; q++) {
                boolean rest = true;
                for (int r = 1; r <= 9; r++) {
                    rest &= one[r][q] <= one[p][q] && other[p][r] <= other[p][q];
                }
                if (rest && rests++ == 0) {
                    first = 10 * p + q;
                    sum = one[p][q] + other[p][q];
                }
            }
        }
        return new int[] {rests, first, sum}[what];
    }

    int panic(int press, int what) {
        need(press >= 1 && press <= 9 && what >= 0 && what <= 2);
        State kept = state;
        state = kept.copy();
        int in = 0;
        int floor = 0;
        int frozen = 0;
        List<Integer> free = new ArrayList<>();
        for (int w = 0; w < winks.size(); w++) {
            if (canFlick(w)) {
                free.add(w);
            }
        }
        for (int w : free) {
            if (canFlick(w)) {
                go(w, farOf(w, press));
                in += cellOf(w) == -3 ? 1 : 0;
                floor += cellOf(w) == -2 ? 1 : 0;
            }
        }
        for (int w = 0; w < winks.size(); w++) {
            frozen += onOf(w) > 0 ? 1 : 0;
        }
        state = kept;
        return new int[] {in, floor, frozen}[what];
    }

    int level(int h, int n) {
        there(h, houses.size());
        need(n >= 0 && n <= 9999);
        for (int bound = 9999; ; bound--) {
            int sum = 0;
            for (int c : state.coins) {
                sum += Math.min(c, bound);
            }
            if (sum <= n) {
                return Math.min(state.coins.get(h), bound);
            }
        }
    }

    int trust(int what) {
        need(what == 0 || what == 1);
        int at = NONE;
        for (int x = felt - 1; x >= 0; x--) {
            int here = state.piles.get(x).size();
            if (here > 0 && (at == NONE || here >= state.piles.get(at).size())) {
                at = x;
            }
        }
        return what == 0 || at == NONE ? at : state.piles.get(at).size();
    }

    int richest(int what) {
        need(what == 0 || what == 1);
        if (houses.isEmpty()) {
            return NONE;
        }
        int most = java.util.Collections.max(state.coins);
        return what == 0 ? state.coins.indexOf(most) : most;
    }

    int ahead(int h, int n) {
        there(h, houses.size());
        need(n >= 0 && n <= 100);
        State kept = state;
        state = kept.copy();
        for (int i = 0; i < n; i++) {
            rent();
        }
        int coins = state.coins.get(h);
        state = kept;
        return coins;
    }

    long seed;

    int draw(int by) {
        seed = (seed * 1103515245L + 12345L) & 0xffffffffL;
        return (int) ((seed >> 16 & 0x7fff) % by);
    }

    int[] seasonOf(int first, int q, int flicks) {
        seed = first & 0xffffffffL;
        State kept = state;
        state = kept.copy();
        int done = 0;
        for (int i = 0; i < flicks && !winks.isEmpty(); i++) {
            int w = draw(winks.size());
            int p = draw(9) + 1;
            int side = draw(2) == 0 ? 1 : -1;
            done += flick(w, p, side) ? 1 : 0;
            if (draw(16) < q) {
                shake();
            }
            if (i % 4 == 3) {
                rent();
            }
        }
        int in = 0;
        for (List<Integer> c : state.inCups) {
            in += c.size();
        }
        int coins = 0;
        for (int c : state.coins) {
            coins += c;
        }
        int[] all = {in, state.floor.size(), done, coins};
        state = kept;
        return all;
    }

    int season(int first, int q, int flicks, int what) {
        need(q >= 0 && q <= 16 && flicks >= 1 && flicks <= 96 && what >= 0 && what <= 3);
        return seasonOf(first, q, flicks)[what];
    }

    int span(int first, int many, int q, int flicks, int what) {
        need(many >= 1 && many <= 20 && q >= 0 && q <= 16 && flicks >= 1 && flicks <= 96 && what >= 0 && what <= 2);
        List<Integer> ins = new ArrayList<>();
        int clean = 0;
        for (int i = 0; i < many; i++) {
            int[] all = seasonOf(first + i, q, flicks);
            ins.add(all[0]);
            clean += all[1] == 0 ? 1 : 0;
        }
        return new int[] {java.util.Collections.min(ins), java.util.Collections.max(ins), clean}[what];
    }

    int undo() {
        if (plays.isEmpty()) {
            return -1;
        }
        state = plays.remove(plays.size() - 1);
        refused = 0;
        return plays.size();
    }

    int image() {
        if (pictures.size() == 3) {
            return -1;
        }
        List<State> copies = new ArrayList<>();
        for (State s : plays) {
            copies.add(s.copy());
        }
        pictures.push(new Picture(state.copy(), copies));
        return pictures.size();
    }

    int restore() {
        if (pictures.isEmpty()) {
            return -1;
        }
        Picture p = pictures.pop();
        state = p.state();
        plays = p.plays();
        refused = 0;
        return pictures.size();
    }

    int status(int what) {
        return what == 0 ? noSuch : what == 1 ? illegal : NONE;
    }

    int count(int what) {
        return what == 0 ? pictures.size() : what == 1 ? tape.size() : what == 2 ? plays.size() : NONE;
    }

    void need(boolean fine) {
        if (!fine) {
            illegal++;
            throw new IllegalArgumentException();
        }
    }

    void there(int i, int many) {
        if (i < 0 || i >= many) {
            noSuch++;
            throw new NoSuchElementException();
        }
    }
}
