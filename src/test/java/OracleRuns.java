import java.util.ArrayDeque;
import java.util.ArrayList;
import java.util.Arrays;
import java.util.HashMap;
import java.util.HashSet;
import java.util.List;
import java.util.Map;
import java.util.NoSuchElementException;
import java.util.Random;
import java.util.Set;
import java.util.function.LongSupplier;
import java.util.function.ToIntFunction;

/** Random runs of calls, each answer held against a second, naive reading of the document. */
public final class OracleRuns {
    private static final int NSE = Integer.MIN_VALUE;
    private static final int IAE = Integer.MIN_VALUE + 1;
    private static final int RUNS = 1500;

    public static void main(String[] args) {
        int runs = args.length > 0 ? Integer.parseInt(args[0]) : RUNS;
        int from = args.length > 1 ? Integer.parseInt(args[1]) : 0;
        int wrong = 0;
        for (int seed = from; seed < from + runs && wrong < 5; seed++) {
            wrong += new Run(seed).play() ? 0 : 1;
        }
        System.out.println(wrong == 0 ? runs + " runs as the oracle says" : wrong + " runs differ");
        System.exit(wrong == 0 ? 0 : 1);
    }

    // ---------------------------------------------------------------- the oracle

    static final class Fault extends RuntimeException {
        final int kind;
        final int place;

        Fault(int kind, int place) {
            super(null, null, false, false);
            this.kind = kind;
            this.place = place;
        }
    }

    static final class Token {
        final char type; // n number, w word, s sign, e end
        final String text;
        final int start;

        Token(char type, String text, int start) {
            this.type = type;
            this.text = text;
            this.start = start;
        }
    }

    static final class Tokens {
        final List<Token> all = new ArrayList<>();
        int at = 0;

        Tokens(String text) {
            int i = 0;
            while (i < text.length()) {
                char c = text.charAt(i);
                int j = i + 1;
                if (c == ' ') {
                    i++;
                } else if (c >= '0' && c <= '9') {
                    while (j < text.length() && text.charAt(j) >= '0' && text.charAt(j) <= '9') {
                        j++;
                    }
                    all.add(new Token('n', text.substring(i, j), i));
                    i = j;
                } else if (c >= 'a' && c <= 'z') {
                    while (j < text.length() && text.charAt(j) >= 'a' && text.charAt(j) <= 'z') {
                        j++;
                    }
                    all.add(new Token('w', text.substring(i, j), i));
                    i = j;
                } else {
                    all.add(new Token('s', text.substring(i, j), i));
                    i = j;
                }
            }
            all.add(new Token('e', "", text.length()));
        }

        Token peek() {
            return all.get(at);
        }

        boolean end() {
            return peek().type == 'e';
        }

        boolean is(String sign) {
            return peek().type == 's' && peek().text.equals(sign);
        }

        void sign(String sign) {
            if (!is(sign)) {
                throw new Fault(1, peek().start);
            }
            at++;
        }

        String word(String... words) {
            if (peek().type != 'w' || !Arrays.asList(words).contains(peek().text)) {
                throw new Fault(1, peek().start);
            }
            return all.get(at++).text;
        }

        int number(int least, int most) {
            if (peek().type != 'n') {
                throw new Fault(1, peek().start);
            }
            java.math.BigInteger value = new java.math.BigInteger(peek().text);
            if (value.compareTo(java.math.BigInteger.valueOf(least)) < 0
                    || value.compareTo(java.math.BigInteger.valueOf(most)) > 0) {
                throw new Fault(2, peek().start);
            }
            at++;
            return value.intValue();
        }

        int start() {
            return peek().start;
        }

        int before() {
            return all.get(at - 1).start;
        }
    }

    static final class Place {
        List<Integer> reef = new ArrayList<>();
        List<int[]> lights = new ArrayList<>();
        List<int[]> donkeys = new ArrayList<>();
        List<int[]> ships = new ArrayList<>();
        List<Integer> doors = new ArrayList<>();
        int sight = 2;
    }

    static Place readPlace(String text) {
        Place p = new Place();
        Tokens t = new Tokens(text);
        int clauses = 0;
        while (!t.end()) {
            String w = t.word("cell", "light", "donkey", "ship", "door", "sight");
            int at = t.before();
            if (clauses == 60) {
                throw new Fault(3, at);
            }
            clauses++;
            if (w.equals("cell")) {
                tooMany(p.reef.size() == 12, at);
                p.reef.add(t.number(0, 9));
            } else if (w.equals("light")) {
                tooMany(p.lights.size() == 6, at);
                p.lights.add(new int[] {t.number(0, p.reef.size() - 1), t.number(1, 9)});
            } else if (w.equals("donkey")) {
                tooMany(p.donkeys.size() == 3, at);
                p.donkeys.add(new int[] {t.number(0, p.reef.size() - 1), t.number(1, 9)});
            } else if (w.equals("ship")) {
                tooMany(p.ships.size() == 6, at);
                p.ships.add(new int[] {t.number(0, 40), t.number(0, 9), t.number(0, 9), t.number(0, 9)});
            } else if (w.equals("door")) {
                tooMany(p.doors.size() == 6, at);
                p.doors.add(t.number(1, 9));
            } else {
                p.sight = t.number(0, 5);
            }
            t.sign(";");
        }
        return p;
    }

    static void tooMany(boolean so, int at) {
        if (so) {
            throw new Fault(3, at);
        }
    }

    interface Expr extends ToIntFunction<Map<String, Integer>> {
    }

    static Expr readLaw(String text) {
        Tokens t = new Tokens(text);
        Expr e = expr(t, 0);
        if (!t.end()) {
            throw new Fault(1, t.start());
        }
        return e;
    }

    static Expr expr(Tokens t, int open) {
        Expr left = term(t, open);
        while (t.is("+") || t.is("-")) {
            boolean plus = t.is("+");
            t.at++;
            Expr a = left;
            Expr b = term(t, open);
            left = plus ? v -> a.applyAsInt(v) + b.applyAsInt(v) : v -> a.applyAsInt(v) - b.applyAsInt(v);
        }
        return left;
    }

    static Expr term(Tokens t, int open) {
        Expr left = unit(t, open);
        while (t.is("*") || t.is("/") || t.is("%")) {
            char op = t.peek().text.charAt(0);
            t.at++;
            Expr a = left;
            Expr b = unit(t, open);
            left = v -> {
                int x = a.applyAsInt(v);
                int y = b.applyAsInt(v);
                if (op == '*') {
                    return x * y;
                }
                if (y == 0) {
                    return 0;
                }
                return (int) (op == '/' ? (long) x / y : (long) x % y);
            };
        }
        return left;
    }

    static Expr unit(Tokens t, int open) {
        if (t.peek().type == 'n') {
            int n = t.number(0, 999);
            return v -> n;
        }
        if (t.is("(")) {
            tooMany(open == 6, t.start());
            t.at++;
            Expr e = expr(t, open + 1);
            t.sign(")");
            return e;
        }
        String w = t.word("seen", "dark", "minute", "cell", "trust", "draught", "crew", "night", "fog", "least", "most");
        if (w.equals("least") || w.equals("most")) {
            tooMany(open == 6, t.before());
            t.sign("[");
            Expr a = expr(t, open + 1);
            t.sign(",");
            Expr b = expr(t, open + 1);
            t.sign("]");
            return w.equals("least") ? v -> Math.min(a.applyAsInt(v), b.applyAsInt(v))
                    : v -> Math.max(a.applyAsInt(v), b.applyAsInt(v));
        }
        return v -> v.get(w);
    }

    static final class Step {
        String word;
        int a;
        int b;
        List<Step> inside;
    }

    static List<Step> readWork(String text, Place p) {
        Tokens t = new Tokens(text);
        List<Step> steps = steps(t, p, 0);
        if (!t.end()) {
            throw new Fault(1, t.start());
        }
        return steps;
    }

    static List<Step> steps(Tokens t, Place p, int open) {
        List<Step> steps = new ArrayList<>();
        while (!(open == 0 ? t.end() : t.is("]"))) {
            Step s = new Step();
            s.word = t.word("dowse", "light", "lead", "pass", "fog", "night", "again");
            switch (s.word) {
                case "dowse":
                case "light":
                    s.a = t.number(0, p.lights.size() - 1);
                    break;
                case "lead":
                    s.a = t.number(0, p.donkeys.size() - 1);
                    s.b = t.number(0, p.reef.size() - 1);
                    break;
                case "pass":
                    s.a = t.number(0, p.ships.size() - 1);
                    break;
                case "again":
                    tooMany(open == 6, t.before());
                    s.a = t.number(0, 30);
                    t.sign("[");
                    s.inside = steps(t, p, open + 1);
                    t.sign("]");
                    break;
                default:
                    break;
            }
            t.sign(";");
            steps.add(s);
        }
        return steps;
    }

    static Map<Integer, Integer> readLog(String text) {
        Tokens t = new Tokens(text);
        Map<Integer, Integer> lines = new HashMap<>();
        while (!t.end()) {
            int m = t.number(0, 59);
            int at = t.before();
            if (lines.containsKey(m)) {
                throw new Fault(2, at);
            }
            tooMany(lines.size() == 12, at);
            lines.put(m, t.number(0, 1));
            t.sign(";");
        }
        return lines;
    }

    static final class State {
        int night = 0;
        boolean fog = false;
        boolean[] burns = new boolean[6];
        int[] stands = new int[3];
        Set<Integer> passed = new HashSet<>();
        int[] shipStruck = new int[6];
        int[] cellStruck = new int[12];
        int struck;
        int parish;
        int held;
        int alive;

        State copy() {
            State s = new State();
            s.night = night;
            s.fog = fog;
            s.burns = burns.clone();
            s.stands = stands.clone();
            s.passed = new HashSet<>(passed);
            s.shipStruck = shipStruck.clone();
            s.cellStruck = cellStruck.clone();
            s.struck = struck;
            s.parish = parish;
            s.held = held;
            s.alive = alive;
            return s;
        }
    }

    static final class Image {
        State state;
        ArrayDeque<State> works;
    }

    static final class Way {
        int where = -1;
        int steered = 0;
        int flashes = 0;
        int blind = -1;
    }

    static final class Oracle {
        StringBuilder tape = new StringBuilder();
        Place p = new Place();
        Expr law = readLaw("seen - 1");
        Map<Integer, Integer> log = new HashMap<>();
        State s = new State();
        ArrayDeque<State> works = new ArrayDeque<>();
        ArrayDeque<Image> images = new ArrayDeque<>();
        int fault = -1;
        int refused = 0;
        int nse = 0;
        int iae = 0;
        int begun;
        int done;

        int read(int n, int longest, ToIntFunction<String> reader) {
            if (n < 0 || n > tape.length() || n > longest) {
                return IAE;
            }
            String text = tape.substring(0, n);
            tape.setLength(0);
            fault = -1;
            try {
                return reader.applyAsInt(text);
            } catch (Fault f) {
                fault = f.place;
                return f.kind - 10;
            }
        }

        int coast(String text) {
            p = readPlace(text);
            law = readLaw("seen - 1");
            log = new HashMap<>();
            s = new State();
            Arrays.fill(s.burns, true);
            for (int i = 0; i < p.donkeys.size(); i++) {
                s.stands[i] = p.donkeys.get(i)[0];
            }
            works.clear();
            images.clear();
            refused = 0;
            return p.ships.size();
        }

        int work(String text) {
            if (works.size() == 16) {
                return -20;
            }
            List<Step> steps = readWork(text, p);
            works.push(s.copy());
            begun = 0;
            done = 0;
            refused = 0;
            run(steps);
            return done;
        }

        void run(List<Step> steps) {
            for (Step step : steps) {
                if (begun == 200) {
                    return;
                }
                begun++;
                if (step.inside != null) {
                    for (int i = 0; i < step.a; i++) {
                        run(step.inside);
                    }
                } else if (can(step)) {
                    done++;
                } else {
                    refused++;
                }
            }
        }

        boolean can(Step step) {
            switch (step.word) {
                case "dowse":
                    if (!s.burns[step.a]) {
                        return false;
                    }
                    s.burns[step.a] = false;
                    return true;
                case "light":
                    if (s.burns[step.a]) {
                        return false;
                    }
                    s.burns[step.a] = true;
                    return true;
                case "lead":
                    if (s.stands[step.a] == step.b) {
                        return false;
                    }
                    s.stands[step.a] = step.b;
                    return true;
                case "fog":
                    if (s.fog) {
                        return false;
                    }
                    s.fog = true;
                    return true;
                case "night":
                    if (s.night >= 500) {
                        return false;
                    }
                    night(s);
                    return true;
                default:
                    if (s.passed.contains(step.a) || p.reef.isEmpty()) {
                        return false;
                    }
                    pass(s, step.a);
                    return true;
            }
        }

        void night(State s) {
            s.night++;
            s.fog = false;
            s.passed.clear();
        }

        void pass(State s, int ship) {
            Way w = way(s, p.lights, ship);
            s.passed.add(ship);
            if (w.where >= 0) {
                s.struck++;
                s.shipStruck[ship]++;
                s.cellStruck[w.where]++;
                int alive = alive(ship, w.where);
                s.alive += alive;
                if (alive == 0) {
                    s.parish += p.ships.get(ship)[0];
                } else {
                    s.held += p.ships.get(ship)[0];
                }
            }
        }

        int alive(int ship, int where) {
            int crew = p.ships.get(ship)[1];
            return where < 0 ? crew : Math.max(0, crew - p.reef.get(where));
        }

        int parishOf(int ship, Way w) {
            return w.where >= 0 && alive(ship, w.where) == 0 ? p.ships.get(ship)[0] : 0;
        }

        int seen(State s, List<int[]> lights, int cell, int minute) {
            int k = s.fog ? p.sight / 2 : p.sight;
            int n = 0;
            for (int i = 0; i < lights.size(); i++) {
                boolean burns = i >= p.lights.size() || s.burns[i];
                if (burns && minute % lights.get(i)[1] == 0 && Math.abs(lights.get(i)[0] - cell) <= k) {
                    n++;
                }
            }
            for (int i = 0; i < p.donkeys.size(); i++) {
                int at = Math.min(s.stands[i] + minute, p.reef.size() - 1);
                if (minute % p.donkeys.get(i)[1] == 0 && Math.abs(at - cell) <= k) {
                    n++;
                }
            }
            return n;
        }

        boolean steers(int ship, int seen, int dark, int minute, int cell, int night, int fog) {
            int[] sh = p.ships.get(ship);
            Map<String, Integer> v = new HashMap<>();
            v.put("seen", seen);
            v.put("dark", dark);
            v.put("minute", minute);
            v.put("cell", cell);
            v.put("crew", sh[1]);
            v.put("trust", sh[2]);
            v.put("draught", sh[3]);
            v.put("night", night);
            v.put("fog", fog);
            return law.applyAsInt(v) > 0;
        }

        Way way(State s, List<int[]> lights, int ship) {
            Way w = new Way();
            int latest = -1;
            for (int m = 0; m < p.reef.size(); m++) {
                int seen = seen(s, lights, m, m);
                w.flashes += seen;
                if (seen == 0 && w.blind < 0) {
                    w.blind = m;
                }
                int dark;
                if (seen > 0) {
                    latest = m;
                    dark = 0;
                } else {
                    dark = latest < 0 ? m : m - latest;
                }
                if (steers(ship, seen, dark, m, m, s.night, s.fog ? 1 : 0)) {
                    w.steered |= 1 << m;
                    if (p.reef.get(m) > 0 && p.reef.get(m) + p.ships.get(ship)[3] >= 6) {
                        w.where = m;
                        return w;
                    }
                }
            }
            return w;
        }

        Way way(int ship) {
            return way(s, p.lights, ship);
        }

        int undo() {
            if (works.isEmpty()) {
                return -1;
            }
            s = works.pop();
            refused = 0;
            return works.size();
        }

        int image() {
            if (images.size() == 3) {
                return -1;
            }
            Image i = new Image();
            i.state = s.copy();
            i.works = new ArrayDeque<>();
            for (State w : works) {
                i.works.addLast(w.copy());
            }
            images.push(i);
            return images.size();
        }

        int restore() {
            if (images.isEmpty()) {
                return -1;
            }
            Image i = images.pop();
            s = i.state;
            works = i.works;
            refused = 0;
            return images.size();
        }

        int told(int what) {
            switch (what) {
                case 0:
                    return p.reef.size();
                case 1:
                    return p.lights.size();
                case 2:
                    return p.donkeys.size();
                case 3:
                    return p.ships.size();
                case 4:
                    return p.doors.size();
                case 5:
                    return s.night;
                case 6:
                    return s.fog ? 1 : 0;
                case 7:
                    return s.struck;
                case 8:
                    return s.parish;
                case 9:
                    return s.held;
                case 10:
                    return s.alive;
                case 11:
                    return log.size();
                case 12:
                    return refused;
                default:
                    return IAE;
            }
        }

        int cell(int c, int what) {
            if (c < 0 || c >= p.reef.size()) {
                return NSE;
            }
            int n = 0;
            switch (what) {
                case 0:
                    return p.reef.get(c);
                case 1:
                    for (int i = 0; i < p.lights.size(); i++) {
                        if (s.burns[i] && p.lights.get(i)[0] == c) {
                            n++;
                        }
                    }
                    return n;
                case 2:
                    for (int i = 0; i < p.donkeys.size(); i++) {
                        if (s.stands[i] == c) {
                            n++;
                        }
                    }
                    return n;
                case 3:
                    return s.cellStruck[c];
                default:
                    return IAE;
            }
        }

        int light(int l, int what) {
            if (l < 0 || l >= p.lights.size()) {
                return NSE;
            }
            if (what == 2) {
                return s.burns[l] ? 1 : 0;
            }
            return what == 0 || what == 1 ? p.lights.get(l)[what] : IAE;
        }

        int donkey(int d, int what) {
            if (d < 0 || d >= p.donkeys.size()) {
                return NSE;
            }
            return what == 0 ? s.stands[d] : what == 1 ? p.donkeys.get(d)[1] : IAE;
        }

        int ship(int i, int what) {
            if (i < 0 || i >= p.ships.size()) {
                return NSE;
            }
            if (what >= 0 && what <= 3) {
                return p.ships.get(i)[what];
            }
            return what == 4 ? (s.passed.contains(i) ? 1 : 0) : what == 5 ? s.shipStruck[i] : IAE;
        }

        int seenAt(int cell, int minute) {
            if (cell < 0 || cell >= p.reef.size()) {
                return NSE;
            }
            return minute < 0 || minute > 99 ? IAE : seen(s, p.lights, cell, minute);
        }

        int would(int ship, int seen, int dark, int minute, int cell, int night, int fog) {
            if (ship < 0 || ship >= p.ships.size()) {
                return NSE;
            }
            boolean in = in(seen, 0, 20) && in(dark, 0, 20) && in(minute, 0, 11) && in(cell, 0, 11)
                    && in(night, 0, 500) && in(fog, 0, 1);
            return !in ? IAE : steers(ship, seen, dark, minute, cell, night, fog) ? 1 : 0;
        }

        static boolean in(int n, int least, int most) {
            return least <= n && n <= most;
        }

        int tried(int ship, int what) {
            if (ship < 0 || ship >= p.ships.size()) {
                return NSE;
            }
            Way w = way(ship);
            switch (what) {
                case 0:
                    return w.where;
                case 1:
                    return w.steered;
                case 2:
                    return alive(ship, w.where);
                case 3:
                    return parishOf(ship, w);
                case 4:
                    return w.flashes;
                default:
                    return IAE;
            }
        }

        int safe() {
            int bits = 0;
            for (int i = 0; i < p.ships.size(); i++) {
                if (way(i).where < 0) {
                    bits |= 1 << i;
                }
            }
            return bits;
        }

        boolean badShips(int ships) {
            for (int i = 0; i < 32; i++) {
                if ((ships >>> i & 1) == 1 && i >= p.ships.size()) {
                    return true;
                }
            }
            return false;
        }

        int bestCargo;
        int bestCells;

        int put(int ships, int what) {
            if (badShips(ships) || !in(what, 0, 1)) {
                return IAE;
            }
            State kept = s;
            s = s.copy();
            bestCargo = -1;
            tryPuts(ships, 0);
            s = kept;
            return what == 0 ? bestCargo : bestCells;
        }

        void tryPuts(int ships, int d) {
            if (d == p.donkeys.size()) {
                int cargo = 0;
                for (int i = 0; i < p.ships.size(); i++) {
                    if ((ships >> i & 1) == 1) {
                        cargo += parishOf(i, way(i));
                    }
                }
                if (cargo > bestCargo) {
                    bestCargo = cargo;
                    bestCells = 0;
                    for (int i = d - 1; i >= 0; i--) {
                        bestCells = bestCells * 16 + s.stands[i];
                    }
                }
                return;
            }
            for (int c = 0; c < p.reef.size(); c++) {
                s.stands[d] = c;
                tryPuts(ships, d + 1);
            }
        }

        int save(int what) {
            if (!in(what, 0, 2)) {
                return IAE;
            }
            int[] best = {-1, -1, -1};
            for (int x = 0; x < p.reef.size(); x++) {
                for (int per = 1; per <= 9; per++) {
                    List<int[]> lights = new ArrayList<>(p.lights);
                    lights.add(new int[] {x, per});
                    int safe = 0;
                    for (int i = 0; i < p.ships.size(); i++) {
                        if (way(s, lights, i).where < 0) {
                            safe++;
                        }
                    }
                    if (safe > best[0]) {
                        best = new int[] {safe, x, per};
                    }
                }
            }
            return best[what];
        }

        List<int[]> allFits() {
            List<int[]> fits = new ArrayList<>();
            for (int per = 1; per <= 9; per++) {
                for (int a = 0; a < per; a++) {
                    boolean ok = true;
                    for (Map.Entry<Integer, Integer> e : log.entrySet()) {
                        ok &= (e.getKey() % per == a) == (e.getValue() == 1);
                    }
                    if (ok) {
                        fits.add(new int[] {per, a});
                    }
                }
            }
            return fits;
        }

        int fits(int what) {
            List<int[]> f = allFits();
            return what == 0 ? f.size() : what == 1 ? (f.isEmpty() ? -1 : 10 * f.get(0)[0] + f.get(0)[1]) : IAE;
        }

        int look(int what) {
            if (!in(what, 0, 1)) {
                return IAE;
            }
            int best = -1;
            int least = 99;
            for (int m = 0; m < 60; m++) {
                if (log.containsKey(m)) {
                    continue;
                }
                int[] left = new int[2];
                for (int b = 0; b < 2; b++) {
                    log.put(m, b);
                    left[b] = allFits().size();
                    log.remove(m);
                }
                if (Math.max(left[0], left[1]) < least) {
                    least = Math.max(left[0], left[1]);
                    best = m;
                }
            }
            return what == 0 ? best : least;
        }

        Set<Integer> rows(int n) {
            Set<Integer> rows = new HashSet<>();
            for (int i = 0; i < 1 << n; i++) {
                rows.add(i);
            }
            for (int[] d : p.donkeys) {
                for (int m = 0; m < 100; m++) {
                    int row = 0;
                    for (int i = 0; i < n; i++) {
                        if ((m + i) % d[1] == 0) {
                            row |= 1 << i;
                        }
                    }
                    rows.remove(row);
                }
            }
            return rows;
        }

        int code(int n, int what) {
            if (!in(n, 1, 8) || !in(what, 0, 1)) {
                return IAE;
            }
            Set<Integer> rows = rows(n);
            return what == 0 ? rows.size() : rows.stream().min(Integer::compare).orElse(-1);
        }

        int shortest() {
            for (int n = 1; n <= 8; n++) {
                if (!rows(n).isEmpty()) {
                    return n;
                }
            }
            return -1;
        }

        long wink(int a, int p, int q, int l, int n, int part) {
            if (!(in(a, 0, 16) && in(p, 0, 16) && in(q, 0, 16) && in(n, 0, 6) && in(l, 0, n) && in(part, 0, 1))) {
                return IAE;
            }
            java.math.BigInteger yes = likely(a, p, l, n);
            java.math.BigInteger all = yes.add(likely(16 - a, q, l, n));
            if (all.signum() == 0) {
                return part;
            }
            java.math.BigInteger g = yes.gcd(all);
            return (part == 0 ? yes : all).divide(g).longValueExact();
        }

        static java.math.BigInteger likely(int a, int p, int l, int n) {
            return java.math.BigInteger.valueOf(a).multiply(java.math.BigInteger.valueOf(p).pow(l))
                    .multiply(java.math.BigInteger.valueOf(16 - p).pow(n - l));
        }

        int have(int they, int he) {
            return he == they || he == they - 1 || he == they + 1 ? -3 : p.reef.get(they);
        }

        int carriers(int what) {
            if (!in(what, 0, 2)) {
                return IAE;
            }
            List<int[]> rests = new ArrayList<>();
            for (int t = 0; t < p.reef.size(); t++) {
                for (int h = 0; h < p.reef.size(); h++) {
                    if (p.reef.get(t) == 0) {
                        continue;
                    }
                    boolean rest = true;
                    for (int o = 0; o < p.reef.size(); o++) {
                        if (p.reef.get(o) > 0 && have(o, h) > have(t, h)) {
                            rest = false;
                        }
                        if (-have(t, o) > -have(t, h)) {
                            rest = false;
                        }
                    }
                    if (rest) {
                        rests.add(new int[] {t, h});
                    }
                }
            }
            if (what == 0) {
                return rests.size();
            }
            if (rests.isEmpty()) {
                return what == 1 ? -1 : 0;
            }
            int[] first = rests.get(0);
            return what == 1 ? 100 * first[0] + first[1] : have(first[0], first[1]);
        }

        int share(int door, int n) {
            if (door < 0 || door >= p.doors.size()) {
                return NSE;
            }
            if (!in(n, 0, 999)) {
                return IAE;
            }
            int all = p.doors.stream().mapToInt(x -> x).sum();
            int[] got = new int[p.doors.size()];
            int over = n;
            List<Integer> order = new ArrayList<>();
            for (int i = 0; i < got.length; i++) {
                got[i] = n * p.doors.get(i) / all;
                over -= got[i];
                order.add(i);
            }
            order.sort((x, y) -> Integer.compare(n * p.doors.get(y) % all, n * p.doors.get(x) % all));
            for (int i = 0; i < over; i++) {
                got[order.get(i)]++;
            }
            return got[door];
        }

        int drawn(int cell) {
            if (cell < 0 || cell >= p.reef.size()) {
                return NSE;
            }
            int bits = 0;
            for (int i = 0; i < p.ships.size(); i++) {
                if (p.reef.get(cell) >= 1 && p.reef.get(cell) + p.ships.get(i)[3] > 5) {
                    bits += 1 << i;
                }
            }
            return bits;
        }

        int flash(int light, int m) {
            if (light < 0 || light >= p.lights.size()) {
                return NSE;
            }
            if (!in(m, 0, 99)) {
                return IAE;
            }
            int at = m;
            while (at % p.lights.get(light)[1] != 0) {
                at++;
            }
            return at;
        }

        int alike(int d, int l, int what) {
            if (d < 0 || d >= p.donkeys.size() || l < 0 || l >= p.lights.size()) {
                return NSE;
            }
            if (!in(what, 0, 1)) {
                return IAE;
            }
            int bits = 0;
            for (int m = 0; m < 30; m++) {
                int many = (m % p.donkeys.get(d)[1] == 0 ? 1 : 0) + (m % p.lights.get(l)[1] == 0 ? 1 : 0);
                if (many == 2 - what) {
                    bits |= 1 << m;
                }
            }
            return bits;
        }

        int reefs(int what) {
            StringBuilder row = new StringBuilder();
            int all = 0;
            for (int r : p.reef) {
                row.append(r > 0 ? 'x' : '.');
                all += r;
            }
            if (what == 2) {
                return all;
            }
            int longest = 0;
            for (int n = 1; n <= 12; n++) {
                if (row.indexOf("x".repeat(n)) >= 0) {
                    longest = n;
                }
            }
            return what == 0 ? longest : what == 1 ? (longest == 0 ? -1 : row.indexOf("x".repeat(longest))) : IAE;
        }

        int brightest(int what) {
            if (!in(what, 0, 1)) {
                return IAE;
            }
            int[] best = {-1, -1};
            for (int c = p.reef.size() - 1; c >= 0; c--) {
                int n = seen(s, p.lights, c, c);
                if (n >= best[1]) {
                    best = new int[] {c, n};
                }
            }
            return best[what];
        }

        int wrecks(int ships, int what) {
            if (badShips(ships) || !in(what, 0, 2)) {
                return IAE;
            }
            int[] sums = new int[3];
            for (int i = 0; i < p.ships.size(); i++) {
                Way w = way(i);
                if ((ships >> i & 1) == 1 && w.where >= 0) {
                    sums[0]++;
                    sums[1] += p.ships.get(i)[0];
                    sums[2] += alive(i, w.where);
                }
            }
            return sums[what];
        }

        int seed;

        int draw() {
            long next = (seed * 1103515245L + 12345L) & 0xffffffffL;
            seed = (int) next;
            return (int) (next / 65536 % 32768);
        }

        int[] winterOf(int first, int nights, int q) {
            State w = s.copy();
            seed = first;
            int foggy = 0;
            for (int i = 0; i < nights; i++) {
                if (draw() % 16 < q) {
                    w.fog = true;
                }
                foggy += w.fog ? 1 : 0;
                if (!p.ships.isEmpty() && !p.reef.isEmpty()) {
                    pass(w, draw() % p.ships.size());
                }
                night(w);
            }
            return new int[] {w.struck - s.struck, w.parish - s.parish, w.alive - s.alive, foggy};
        }

        int winter(int first, int nights, int q, int what) {
            if (!in(nights, 1, 96) || !in(q, 0, 16) || !in(what, 0, 3)) {
                return IAE;
            }
            return winterOf(first, nights, q)[what];
        }

        int span(int first, int many, int nights, int q, int what) {
            if (!in(many, 1, 20) || !in(nights, 1, 96) || !in(q, 0, 16) || !in(what, 0, 2)) {
                return IAE;
            }
            List<Integer> cargo = new ArrayList<>();
            int none = 0;
            for (int i = 0; i < many; i++) {
                int[] w = winterOf(first + i, nights, q);
                cargo.add(w[1]);
                none += w[0] == 0 ? 1 : 0;
            }
            cargo.sort(Integer::compare);
            return what == 0 ? cargo.get(0) : what == 1 ? cargo.get(many - 1) : none;
        }
    }

    // ---------------------------------------------------------------- a random run

    static final class Run {
        final int number;
        final Random random;
        final DonkeyLight x = new DonkeyLight();
        final Oracle o = new Oracle();
        final List<String> calls = new ArrayList<>();
        boolean wrong = false;
        int used = 0;

        Run(int number) {
            this.number = number;
            this.random = new Random(number * 7919L + 13);
        }

        boolean play() {
            int first = random.nextInt(10);
            if (first > 0) {
                text(0, coastText());
            }
            while (used < 500 && !wrong) {
                step();
            }
            return !wrong;
        }

        void due(String call, LongSupplier ask, long want) {
            long got;
            used++;
            try {
                got = ask.getAsLong();
            } catch (NoSuchElementException e) {
                got = NSE;
            } catch (IllegalArgumentException e) {
                got = IAE;
            }
            if (want == NSE) {
                o.nse++;
            } else if (want == IAE) {
                o.iae++;
            }
            calls.add(call + " -> " + got);
            if (got != want && !wrong) {
                wrong = true;
                System.out.println("run " + number + ": " + call + " answered " + got + ", the oracle says " + want);
                int start = Math.max(0, calls.size() - 12);
                for (String line : calls.subList(start, calls.size())) {
                    System.out.println("    " + line);
                }
            }
        }

        int pick(int least, int most) {
            return least + random.nextInt(most - least + 1);
        }

        /** Mostly within, at times just outside or far out. */
        int near(int least, int most) {
            switch (random.nextInt(24)) {
                case 0:
                    return least - 1;
                case 1:
                    return most + 1;
                case 2:
                    return random.nextInt();
                default:
                    return most < least ? least : pick(least, most);
            }
        }

        boolean one(int of) {
            return random.nextInt(of) == 0;
        }

        String blanks() {
            return one(12) ? " ".repeat(pick(1, 2)) : "";
        }

        String num(int least, int most) {
            int n = most < least ? least : pick(least, most);
            if (one(150)) {
                n = most + 1;
            }
            if (n < 0) {
                n = 0;
            }
            String zeros = one(60) ? "00" : "";
            return zeros + n;
        }

        String coastText() {
            StringBuilder b = new StringBuilder();
            int cells = one(12) ? 0 : one(4) ? 12 : pick(1, 12);
            for (int i = 0; i < cells; i++) {
                b.append("cell ").append(one(3) ? "0" : num(0, 9)).append(blanks()).append(";");
            }
            int lights = cells == 0 ? 0 : pick(0, 6);
            for (int i = 0; i < lights; i++) {
                b.append("light ").append(num(0, cells - 1)).append(" ").append(num(1, 9)).append(";");
            }
            int donkeys = cells == 0 ? 0 : pick(0, 3);
            for (int i = 0; i < donkeys; i++) {
                b.append("donkey ").append(num(0, cells - 1)).append(" ").append(num(1, 9)).append(";");
            }
            int ships = one(10) ? 0 : pick(1, 6);
            for (int i = 0; i < ships; i++) {
                b.append("ship ").append(num(0, 40)).append(" ").append(num(0, 9)).append(" ").append(num(0, 9));
                b.append(" ").append(num(0, 9)).append(";");
            }
            int doors = pick(0, 6);
            for (int i = 0; i < doors; i++) {
                b.append("door").append(num(1, 9)).append(";");
            }
            if (!one(3)) {
                b.append("sight ").append(num(0, 5)).append(";");
            }
            return b.toString();
        }

        String expr(int deep) {
            StringBuilder b = new StringBuilder(unit(deep));
            int more = deep > 4 ? 0 : pick(0, 2);
            for (int i = 0; i < more; i++) {
                b.append(blanks()).append("+-*/%".charAt(random.nextInt(5))).append(blanks()).append(unit(deep));
            }
            return b.toString();
        }

        String unit(int deep) {
            int kind = random.nextInt(deep > 7 ? 6 : 9);
            if (kind < 2) {
                return num(0, one(4) ? 999 : 5);
            }
            if (kind < 6) {
                String[] names = {"seen", "dark", "minute", "cell", "trust", "draught", "crew", "night", "fog"};
                return names[random.nextInt(one(2) ? 2 : 9)];
            }
            if (kind == 6) {
                return "(" + expr(deep + 1) + ")";
            }
            String word = kind == 7 ? "least" : "most";
            return word + blanks() + "[" + expr(deep + 1) + "," + blanks() + expr(deep + 1) + "]";
        }

        String workText(int deep, int room) {
            StringBuilder b = new StringBuilder();
            int many = pick(0, deep == 0 ? 9 : 3);
            for (int i = 0; i < many && b.length() < room; i++) {
                switch (random.nextInt(10)) {
                    case 0:
                        b.append("dowse ").append(num(0, o.p.lights.size() - 1));
                        break;
                    case 1:
                        b.append("light ").append(num(0, o.p.lights.size() - 1));
                        break;
                    case 2:
                    case 3:
                        b.append("lead ").append(num(0, o.p.donkeys.size() - 1)).append(" ");
                        b.append(num(0, o.p.reef.size() - 1));
                        break;
                    case 4:
                        b.append("fog");
                        break;
                    case 5:
                        b.append("night");
                        break;
                    case 6:
                        b.append("again ").append(num(0, one(3) ? 30 : 4)).append(blanks()).append("[");
                        b.append(deep > 6 ? "" : workText(deep + 1, room / 2)).append("]");
                        break;
                    default:
                        b.append("pass ").append(num(0, o.p.ships.size() - 1));
                        break;
                }
                b.append(blanks()).append(";").append(blanks());
            }
            return b.toString();
        }

        String logText() {
            StringBuilder b = new StringBuilder();
            int per = pick(1, 9);
            int a = random.nextInt(per);
            int lines = one(6) ? pick(10, 13) : pick(0, 5);
            List<Integer> minutes = new ArrayList<>();
            for (int m = 0; m < 60; m++) {
                minutes.add(m);
            }
            java.util.Collections.shuffle(minutes, random);
            for (int i = 0; i < lines; i++) {
                int m = one(60) ? pick(0, 61) : minutes.get(i);
                int flash = one(12) ? random.nextInt(2) : m % per == a ? 1 : 0;
                b.append(blanks()).append(m).append(" ").append(blanks()).append(flash).append(";");
            }
            return b.toString();
        }

        String marred(String text) {
            if (!one(5) || text.isEmpty()) {
                return text;
            }
            StringBuilder b = new StringBuilder(text);
            int at = random.nextInt(b.length());
            String some = " ;0129[](),abcelnpstw+-*/%\u0000\u00ff\n";
            switch (random.nextInt(4)) {
                case 0:
                    b.deleteCharAt(at);
                    break;
                case 1:
                    b.setCharAt(at, some.charAt(random.nextInt(some.length())));
                    break;
                case 2:
                    b.insert(at, some.charAt(random.nextInt(some.length())));
                    break;
                default:
                    b.setLength(at);
                    break;
            }
            return b.toString();
        }

        void feed(int[] n) {
            int want;
            if (o.tape.length() + 20 > 600) {
                want = -1;
            } else {
                for (int v : n) {
                    for (int shift = 24; shift >= 0; shift -= 8) {
                        o.tape.append((char) (v >>> shift & 255));
                    }
                }
                want = o.tape.length();
            }
            due("feed" + Arrays.toString(n), () -> x.feed(n[0], n[1], n[2], n[3], n[4]), want);
        }

        void text(int kind, String text) {
            int longest = new int[] {600, 150, 150, 100}[kind];
            String t = text.length() > 600 ? text.substring(0, 600) : text;
            if (kind > 0 && t.length() > longest && !one(10)) {
                t = t.substring(0, longest);
            }
            for (int i = 0; i < t.length(); i += 20) {
                int[] n = new int[5];
                for (int j = 0; j < 20; j++) {
                    int c = i + j < t.length() ? t.charAt(i + j) : 0;
                    n[j / 4] |= c << (24 - 8 * (j % 4));
                }
                feed(n);
            }
            int n = one(40) ? near(0, longest) : t.length();
            say(kind, n, t);
            due("fault()", x::fault, o.fault);
        }

        void say(int kind, int n, String t) {
            switch (kind) {
                case 0:
                    due("coast(" + n + ") " + t, () -> x.coast(n), o.read(n, 600, o::coast));
                    break;
                case 1:
                    due("law(" + n + ") " + t, () -> x.law(n), o.read(n, 150, s -> {
                        o.law = readLaw(s);
                        return 1;
                    }));
                    break;
                case 2:
                    due("work(" + n + ") " + t, () -> x.work(n), o.read(n, 150, o::work));
                    break;
                default:
                    due("log(" + n + ") " + t, () -> x.log(n), o.read(n, 100, s -> {
                        o.log = readLog(s);
                        return o.log.size();
                    }));
                    break;
            }
        }

        void step() {
            int kind = random.nextInt(40);
            if (kind == 0 && one(3)) {
                text(0, marred(coastText()));
            } else if (kind <= 2) {
                text(1, marred(expr(0)));
            } else if (kind <= 6) {
                text(2, marred(workText(0, 120)));
            } else if (kind == 7) {
                text(3, marred(logText()));
            } else if (kind == 8) {
                due("restore()", x::restore, o.restore());
            } else if (kind <= 20) {
                askState();
            } else {
                askMore();
            }
        }

        void askState() {
            int a;
            int b;
            switch (random.nextInt(14)) {
                case 0:
                    if (one(3)) {
                        due("undo()", x::undo, o.undo());
                    }
                    break;
                case 1:
                    if (one(3)) {
                        due("image()", x::image, o.image());
                    }
                    break;
                case 2:
                    if (one(3)) {
                        due("restore()", x::restore, o.restore());
                    }
                    break;
                case 3:
                case 4:
                    a = near(0, 12);
                    due("told(" + a + ")", () -> x.told(a), o.told(a));
                    break;
                case 5:
                    a = near(0, o.p.reef.size() - 1);
                    b = near(0, 3);
                    due("cell(" + a + ", " + b + ")", () -> x.cell(a, b), o.cell(a, b));
                    break;
                case 6:
                    a = near(0, o.p.lights.size() - 1);
                    b = near(0, 2);
                    due("light(" + a + ", " + b + ")", () -> x.light(a, b), o.light(a, b));
                    break;
                case 7:
                    a = near(0, o.p.donkeys.size() - 1);
                    b = near(0, 1);
                    due("donkey(" + a + ", " + b + ")", () -> x.donkey(a, b), o.donkey(a, b));
                    break;
                case 8:
                    a = near(0, o.p.ships.size() - 1);
                    b = near(0, 5);
                    due("ship(" + a + ", " + b + ")", () -> x.ship(a, b), o.ship(a, b));
                    break;
                case 9:
                    a = near(0, o.p.reef.size() - 1);
                    b = near(0, one(2) ? 12 : 99);
                    due("seen(" + a + ", " + b + ")", () -> x.seen(a, b), o.seenAt(a, b));
                    break;
                case 10:
                    a = near(0, 1);
                    due("status(" + a + ")", () -> x.status(a), a == 0 ? o.nse : a == 1 ? o.iae : -1);
                    break;
                case 11:
                    a = near(0, 2);
                    due("count(" + a + ")", () -> x.count(a),
                            a == 0 ? o.images.size() : a == 1 ? o.tape.length() : a == 2 ? o.works.size() : -1);
                    break;
                case 12:
                    if (one(4)) {
                        feed(new int[] {random.nextInt(), 0x20202020, 0, -1, 0x3b3b3b3b});
                    }
                    break;
                default:
                    due("fault()", x::fault, o.fault);
                    break;
            }
        }

        void askMore() {
            int a;
            int b;
            int c;
            int d;
            int e;
            int f;
            switch (random.nextInt(23)) {
                case 0:
                    a = near(0, o.p.ships.size() - 1);
                    b = near(0, 20);
                    c = near(0, 20);
                    d = near(0, 11);
                    e = near(0, 11);
                    f = near(0, 500);
                    int g = near(0, 1);
                    due("would" + List.of(a, b, c, d, e, f, g), () -> x.would(a, b, c, d, e, f, g) ? 1 : 0,
                            o.would(a, b, c, d, e, f, g));
                    break;
                case 1:
                case 2:
                    a = near(0, o.p.ships.size() - 1);
                    b = near(0, 4);
                    due("tried(" + a + ", " + b + ")", () -> x.tried(a, b), o.tried(a, b));
                    break;
                case 3:
                    due("safe()", x::safe, o.safe());
                    break;
                case 4:
                    a = near(0, (1 << o.p.ships.size()) - 1);
                    b = near(0, 1);
                    due("put(" + a + ", " + b + ")", () -> x.put(a, b), o.put(a, b));
                    break;
                case 5:
                    a = near(0, 2);
                    due("save(" + a + ")", () -> x.save(a), o.save(a));
                    break;
                case 6:
                    a = near(0, 1);
                    due("fits(" + a + ")", () -> x.fits(a), o.fits(a));
                    break;
                case 7:
                    a = near(0, 1);
                    due("look(" + a + ")", () -> x.look(a), o.look(a));
                    break;
                case 8:
                    a = near(1, 8);
                    b = near(0, 1);
                    due("code(" + a + ", " + b + ")", () -> x.code(a, b), o.code(a, b));
                    break;
                case 9:
                    due("shortest()", x::shortest, o.shortest());
                    break;
                case 10:
                    a = near(0, 16);
                    b = near(0, 16);
                    c = near(0, 16);
                    e = near(0, 6);
                    d = near(0, Math.min(Math.max(e, 0), 6));
                    f = near(0, 1);
                    due("wink" + List.of(a, b, c, d, e, f), () -> x.wink(a, b, c, d, e, f), o.wink(a, b, c, d, e, f));
                    break;
                case 11:
                    a = near(0, 2);
                    due("carriers(" + a + ")", () -> x.carriers(a), o.carriers(a));
                    break;
                case 12:
                    a = near(0, o.p.doors.size() - 1);
                    b = near(0, one(2) ? 999 : 20);
                    due("share(" + a + ", " + b + ")", () -> x.share(a, b), o.share(a, b));
                    break;
                case 13:
                    a = near(0, o.p.reef.size() - 1);
                    due("drawn(" + a + ")", () -> x.drawn(a), o.drawn(a));
                    break;
                case 14:
                    a = near(0, o.p.lights.size() - 1);
                    b = near(0, 99);
                    due("flash(" + a + ", " + b + ")", () -> x.flash(a, b), o.flash(a, b));
                    break;
                case 15:
                    a = near(0, o.p.donkeys.size() - 1);
                    b = near(0, o.p.lights.size() - 1);
                    c = near(0, 1);
                    due("alike" + List.of(a, b, c), () -> x.alike(a, b, c), o.alike(a, b, c));
                    break;
                case 16:
                    a = near(0, o.p.ships.size() - 1);
                    due("blind(" + a + ")", () -> x.blind(a),
                            a < 0 || a >= o.p.ships.size() ? NSE : o.way(a).blind);
                    break;
                case 17:
                    a = near(0, 2);
                    due("reefs(" + a + ")", () -> x.reefs(a), o.reefs(a));
                    break;
                case 18:
                    a = near(0, 1);
                    due("brightest(" + a + ")", () -> x.brightest(a), o.brightest(a));
                    break;
                case 19:
                    a = near(0, (1 << o.p.ships.size()) - 1);
                    b = near(0, 2);
                    due("wrecks(" + a + ", " + b + ")", () -> x.wrecks(a, b), o.wrecks(a, b));
                    break;
                case 20:
                case 21:
                    a = random.nextInt();
                    b = near(1, one(3) ? 96 : 6);
                    c = near(0, 16);
                    d = near(0, 3);
                    due("winter" + List.of(a, b, c, d), () -> x.winter(a, b, c, d), o.winter(a, b, c, d));
                    break;
                default:
                    a = one(9) ? Integer.MAX_VALUE : random.nextInt();
                    b = near(1, 20);
                    c = near(1, one(5) ? 96 : 4);
                    d = near(0, 16);
                    e = near(0, 2);
                    due("span" + List.of(a, b, c, d, e), () -> x.span(a, b, c, d, e), o.span(a, b, c, d, e));
                    break;
            }
        }
    }
}
