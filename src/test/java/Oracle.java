import java.util.ArrayDeque;
import java.util.ArrayList;
import java.util.Deque;
import java.util.List;
import java.util.NoSuchElementException;

/**
 * The document once more, as plainly as the Java library allows and without a thought of cost:
 * rules are read from their text at every crossing, every search tries all there is. FuzzTest
 * holds ThornHedge against it.
 */
final class Oracle {
    static final class State {
        int[] hedge = {0};
        boolean[] gate = {false};
        int[] men = {0};
        int cheap = 5, dear = 20, week = 0, over = 0;

        State copy() {
            State s = new State();
            s.hedge = hedge.clone();
            s.gate = gate.clone();
            s.men = men.clone();
            s.cheap = cheap;
            s.dear = dear;
            s.week = week;
            s.over = over;
            return s;
        }

        int miles() {
            return hedge.length;
        }

        int hedges() {
            int sum = 0;
            for (int h : hedge) sum += h;
            return sum;
        }

        int guards() {
            int sum = 0;
            for (int m : men) sum += m;
            return sum;
        }
    }

    State now = new State();
    String text = "";
    String sky = "f";
    String ruling = "";
    final List<int[]> band = new ArrayList<>();
    final List<int[]> town = new ArrayList<>();
    final List<int[]> rumours = new ArrayList<>();
    final Deque<State> past = new ArrayDeque<>();
    final State[] shelf = new State[3];
    List<Long> row = new ArrayList<>();

    private void tell(long... numbers) {
        row = new ArrayList<>();
        for (long n : numbers) row.add(n);
    }

    private String readText() {
        String read = text;
        text = "";
        return read;
    }

    // ---- a rule, worth what its text says

    /** Reads by descent; at most `most` signs count, and a fault is the place that can't be. */
    static final class Reader {
        final String s;
        int p = 0;
        int fault = -1;
        int h, g, l, w, n;

        Reader(String s) {
            this.s = s;
        }

        char sign() {
            return p < s.length() ? s.charAt(p) : (char) 0xFFFF;
        }

        int fail() {
            if (fault < 0) fault = p;
            return 0;
        }

        int expression(int depth) {
            int a = sum(depth);
            if (fault >= 0) return 0;
            char c = sign();
            if (c == '<' || c == '>' || c == '=') {
                p++;
                int b = sum(depth);
                boolean yes = c == '<' ? a < b : c == '>' ? a > b : a == b;
                return yes ? 1 : 0;
            }
            return a;
        }

        int sum(int depth) {
            int a = product(depth);
            while (fault < 0 && (sign() == '+' || sign() == '-')) {
                char c = sign();
                p++;
                int b = product(depth);
                a = c == '+' ? a + b : a - b;
            }
            return a;
        }

        int product(int depth) {
            int a = thing(depth);
            while (fault < 0 && (sign() == '*' || sign() == '/')) {
                char c = sign();
                p++;
                int b = thing(depth);
                a = c == '*' ? a * b : b == 0 ? 0 : a / b;
            }
            return a;
        }

        int thing(int depth) {
            char c = sign();
            if (c == '-') {
                p++;
                return -thing(depth);
            }
            if (c == '(') {
                if (depth == 4) return fail();
                p++;
                int v = expression(depth + 1);
                if (fault >= 0) return 0;
                if (sign() != ')') return fail();
                p++;
                return v;
            }
            if (c >= '0' && c <= '9') {
                int v = 0;
                for (int d = 0; d < 3 && sign() >= '0' && sign() <= '9'; d++) {
                    v = v * 10 + sign() - '0';
                    p++;
                }
                return v;
            }
            int at = "hglwn".indexOf(c);
            if (at < 0) return fail();
            p++;
            return new int[] {h, g, l, w, n}[at];
        }
    }

    static int ruleFault(String s) {
        if (s.isEmpty()) return -1;
        Reader r = new Reader(s.length() > 40 ? s.substring(0, 40) : s);
        r.expression(0);
        if (r.fault >= 0) return r.fault;
        if (r.p < r.s.length()) return r.p;
        return s.length() > 40 ? 40 : -1;
    }

    static int risk(String rule, int h, int g, int l, int week, int n) {
        Reader r = new Reader(rule.isEmpty() ? "h*5+g*10" : rule);
        r.h = h;
        r.g = g;
        r.l = l;
        r.w = week % 8;
        r.n = n;
        return Math.max(0, Math.min(999, r.expression(0)));
    }

    // ---- who goes

    char skyOf(int week) {
        return sky.charAt(week % sky.length());
    }

    int dangerIn(State s, String rule, int c, int mile) {
        int kind = band.get(c)[0];
        int others = 0;
        for (int m = 0; m < s.miles(); m++) if (m != mile && s.men[m] > 0) others++;
        int h = s.hedge[mile], g = s.men[mile], l = band.get(c)[1];
        switch (kind) {
            case 0: return s.gate[mile] ? -2 : risk(rule, h, g, l, s.week, others);
            case 1: return s.gate[mile] ? -2 : risk(rule, h / 2, g, l, s.week, others);
            case 2: return s.gate[mile] || skyOf(s.week) != 'r' ? -2 : risk(rule, 0, g, l, s.week, others);
            case 3: return s.gate[mile] ? risk(rule, h, g, l, s.week, others) / 2 : -2;
            default: return s.guards() * 2;
        }
    }

    /** Mile and danger, or null. */
    int[] leastOf(State s, String rule, int c) {
        int[] best = null;
        for (int m = 0; m < s.miles(); m++) {
            int d = dangerIn(s, rule, c, m);
            if (d >= 0 && (best == null || d < best[1])) best = new int[] {m, d};
        }
        return best;
    }

    int gain(State s, int c) {
        return band.get(c)[1] * (s.dear - s.cheap);
    }

    int goesWhere(State s, String rule, int c) {
        int[] best = leastOf(s, rule, c);
        return best != null && gain(s, c) > best[1] ? best[0] : -1;
    }

    static final class Week {
        int loads, bits;
        int[] byMile = new int[12];
    }

    Week cross(State s, String rule, int paid) {
        Week w = new Week();
        for (int c = 0; c < band.size(); c++) {
            int mile = (paid & 1 << c) != 0 ? -1 : goesWhere(s, rule, c);
            if (mile < 0) continue;
            int kind = band.get(c)[0], load = band.get(c)[1];
            w.loads += load;
            w.bits |= 1 << c;
            if (kind != 4) w.byMile[mile] += load;
            if (kind == 1) s.hedge[mile] = Math.max(0, s.hedge[mile] - 2);
        }
        return w;
    }

    Week week(State s, String rule) {
        Week w = cross(s, rule, 0);
        s.over += w.loads;
        char c = skyOf(s.week);
        for (int m = 0; m < s.miles(); m++) {
            if (c == 'd') s.hedge[m] = Math.max(0, s.hedge[m] - 1);
            if (c == 'r') s.hedge[m] = Math.min(9, s.hedge[m] + 1);
            if (c == 'a' && m == s.week % s.miles()) s.hedge[m] = 0;
        }
        s.week++;
        return w;
    }

    // ---- the line, carriers

    int sign(int v) {
        if (text.length() + 4 > 80) return -1;
        for (int i = 3; i >= 0; i--) text += (char) (v >> 8 * i & 255);
        return text.length();
    }

    boolean end(int n) {
        if (n < 0 || n > text.length()) return false;
        text = text.substring(0, n);
        return true;
    }

    int line() {
        String s = readText();
        if (s.isEmpty()) return -1;
        for (int p = 0; p < s.length(); p++) {
            if (p == 12 || "0123456789G".indexOf(s.charAt(p)) < 0) return -1 - p;
        }
        State fresh = new State();
        fresh.hedge = new int[s.length()];
        fresh.gate = new boolean[s.length()];
        fresh.men = new int[s.length()];
        for (int p = 0; p < s.length(); p++) {
            fresh.gate[p] = s.charAt(p) == 'G';
            fresh.hedge[p] = fresh.gate[p] ? 0 : s.charAt(p) - '0';
        }
        fresh.cheap = now.cheap;
        fresh.dear = now.dear;
        now = fresh;
        past.clear();
        for (int i = 0; i < 3; i++) shelf[i] = null;
        return s.length();
    }

    int carriers() {
        String s = readText();
        if (s.isEmpty()) return 0;
        List<int[]> more = new ArrayList<>();
        int p = 0;
        while (true) {
            if (band.size() + more.size() == 8) return -1 - p;
            if (p >= s.length() || p == 23 || "01234".indexOf(s.charAt(p)) < 0) return -1 - p;
            p++;
            if (p >= s.length() || p == 23 || "123456789".indexOf(s.charAt(p)) < 0) return -1 - p;
            more.add(new int[] {s.charAt(p - 1) - '0', s.charAt(p) - '0'});
            p++;
            if (p == s.length()) break;
            if (p == 23 || s.charAt(p) != ';') return -1 - p;
            p++;
        }
        band.addAll(more);
        return more.size();
    }

    int weather() {
        String s = readText();
        if (s.isEmpty()) return -1;
        for (int p = 0; p < s.length(); p++) {
            if (p == 20 || "fdra".indexOf(s.charAt(p)) < 0) return -1 - p;
        }
        sky = s;
        return s.length();
    }

    private static boolean digitAt(String s, int p) {
        return p < s.length() && p < 47 && s.charAt(p) >= '0' && s.charAt(p) <= '9';
    }

    int mouths() {
        String s = readText();
        if (s.isEmpty()) return 0;
        List<int[]> more = new ArrayList<>();
        int p = 0;
        while (true) {
            if (town.size() + more.size() == 8) return -1 - p;
            int from = p;
            while (p < from + 2 && digitAt(s, p)) p++;
            if (p == from) return -1 - p;
            int people = Integer.parseInt(s.substring(from, p));
            if (people == 0) return -1 - (p - 1);
            if (p >= s.length() || p == 47 || s.charAt(p) != ',') return -1 - p;
            p++;
            from = p;
            while (p < from + 2 && digitAt(s, p)) p++;
            if (p == from) return -1 - p;
            more.add(new int[] {people, Integer.parseInt(s.substring(from, p))});
            if (p == s.length()) break;
            if (p == 47 || s.charAt(p) != ';') return -1 - p;
            p++;
        }
        town.addAll(more);
        return more.size();
    }

    int rule() {
        String s = readText();
        int fault = ruleFault(s);
        if (fault >= 0) return -1 - fault;
        ruling = s;
        return 0;
    }

    int mile(int mile, int what) {
        if (mile < 0 || mile >= now.miles() || what < 0 || what > 2) throw new NoSuchElementException();
        return what == 0 ? now.hedge[mile] : what == 1 ? (now.gate[mile] ? 1 : 0) : now.men[mile];
    }

    int carrier(int c, int what) {
        if (c < 0 || c >= band.size() || what < 0 || what > 3) throw new NoSuchElementException();
        if (what < 2) return band.get(c)[what];
        if (what == 2) return goesWhere(now, ruling, c);
        int[] best = leastOf(now, ruling, c);
        return best == null ? -1 : best[1];
    }

    int mouth(int sort, int what) {
        if (sort < 0 || sort >= town.size() || what < 0 || what > 1) throw new NoSuchElementException();
        return town.get(sort)[what];
    }

    int danger(int c, int mile) {
        if (c < 0 || c >= band.size() || mile < 0 || mile >= now.miles()) return -1;
        return dangerIn(now, ruling, c, mile);
    }

    int sheet(int kind, int n, int f, int step) {
        if (kind < 0 || kind > 3 || n > 12) return -1;
        if (kind == 3) {
            now.hedge = new int[now.miles()];
            return -3;
        }
        if (n < 0) return -2;
        int[] hedges = new int[now.miles()];
        int v = f;
        for (int i = 0; i < n; i++) {
            int told = kind == 0 ? (byte) v : kind == 1 ? (short) v : v;
            if (i < hedges.length) hedges[i] = Math.max(0, Math.min(9, told));
            v += step;
        }
        now.hedge = hedges;
        return now.hedges();
    }

    // ---- weeks

    private void remember(State s) {
        past.push(s);
        if (past.size() > 15) past.removeLast();
    }

    private int doPrice(int what, int v) {
        if (what < 0 || what > 1 || v < 0 || v > 99) return -1;
        int old = what == 0 ? now.cheap : now.dear;
        if (what == 0) now.cheap = v;
        else now.dear = v;
        return old;
    }

    private int doGuard(int mile, int n) {
        if (mile < 0 || mile >= now.miles() || n < 0 || n > 9) return -1;
        now.men[mile] = n;
        return now.guards();
    }

    private int doPlant(int mile, int n) {
        if (mile < 0 || mile >= now.miles() || n < 1 || n > 9) return -1;
        if (now.gate[mile]) return -2;
        return now.hedge[mile] = Math.min(9, now.hedge[mile] + n);
    }

    private static void turn(State s, int mile) {
        s.gate[mile] = !s.gate[mile];
        if (s.gate[mile]) s.hedge[mile] = 0;
    }

    private int doGate(int mile) {
        if (mile < 0 || mile >= now.miles()) return -1;
        turn(now, mile);
        int many = 0;
        for (boolean g : now.gate) if (g) many++;
        return many;
    }

    private int doWeeks(int n) {
        if (n < 0 || n > 60) return -1;
        int loads = 0, bits = 0;
        for (int i = 0; i < n; i++) {
            Week w = week(now, ruling);
            loads += w.loads;
            bits |= w.bits;
        }
        tell(bits, now.hedges());
        return loads;
    }

    private int done(State before, int answer) {
        if (answer >= 0) remember(before);
        return answer;
    }

    int price(int what, int v) {
        State s = now.copy();
        return done(s, doPrice(what, v));
    }

    int guard(int mile, int n) {
        State s = now.copy();
        return done(s, doGuard(mile, n));
    }

    int plant(int mile, int n) {
        State s = now.copy();
        return done(s, doPlant(mile, n));
    }

    int gate(int mile) {
        State s = now.copy();
        return done(s, doGate(mile));
    }

    int weeks(int n) {
        State s = now.copy();
        return done(s, doWeeks(n));
    }

    /** What may stand at each place of an act, by its first sign. */
    private static String[] shape(char first) {
        String digit = "0123456789", letter = "abcdefghijkl";
        switch (first) {
            case 'w': return new String[] {digit};
            case 'm': return new String[] {letter, digit};
            case 'p': return new String[] {letter, "123456789"};
            case 'g': return new String[] {letter};
            case 'c':
            case 'd': return new String[] {digit, digit};
            default: return null;
        }
    }

    int log() {
        String s = readText();
        List<String> acts = new ArrayList<>();
        int p = 0;
        while (p < s.length()) {
            if (p == 60) return -61;
            String[] shape = shape(s.charAt(p));
            if (shape == null) return -1 - p;
            int from = p++;
            for (String allowed : shape) {
                if (p == s.length() || p == 60 || allowed.indexOf(s.charAt(p)) < 0) return -1 - p;
                p++;
            }
            acts.add(s.substring(from, p));
        }
        State before = now.copy();
        int done = 0, refused = 0;
        for (String act : acts) {
            int mile = act.charAt(1) - 'a', last = act.charAt(act.length() - 1) - '0';
            int answer;
            switch (act.charAt(0)) {
                case 'w': answer = doWeeks(last); break;
                case 'm': answer = doGuard(mile, last); break;
                case 'p': answer = doPlant(mile, last); break;
                case 'g': answer = doGate(mile); break;
                case 'c': answer = doPrice(0, Integer.parseInt(act.substring(1))); break;
                default: answer = doPrice(1, Integer.parseInt(act.substring(1)));
            }
            if (answer < 0) {
                refused = 1;
                break;
            }
            done++;
        }
        if (done > 0) remember(before);
        tell(refused, now.over);
        return done;
    }

    int undo() {
        if (past.isEmpty()) return -1;
        now = past.pop();
        return past.size();
    }

    // ---- what comes over

    int goes() {
        Week w = cross(now.copy(), ruling, 0);
        int best = -1, most = 0;
        for (int m = 0; m < 12; m++) {
            if (w.byMile[m] > most) {
                most = w.byMile[m];
                best = m;
            }
        }
        tell(w.loads, best);
        return w.bits;
    }

    private int loadsIn(State s, String rule, int n) {
        int loads = 0;
        for (int i = 0; i < n; i++) loads += week(s, rule).loads;
        return loads;
    }

    int ahead(int n) {
        if (n < 0 || n > 99) return -1;
        State s = now.copy();
        int loads = 0, quiet = 0;
        for (int i = 0; i < n; i++) {
            int came = week(s, ruling).loads;
            loads += came;
            if (came == 0) quiet++;
        }
        tell(s.hedges(), quiet);
        return loads;
    }

    int holds() {
        State s = now.copy();
        for (int i = 0; i < 99; i++) {
            Week w = week(s, ruling);
            if (w.loads > 0) {
                tell(w.bits);
                return i;
            }
        }
        return -2;
    }

    private int loadsAtPrice(int dear) {
        State s = now.copy();
        s.dear = dear;
        return cross(s, ruling, 0).loads;
    }

    int keeps() {
        int dear = 99;
        while (loadsAtPrice(dear) > 0) dear--;
        return dear;
    }

    private int poorer(int price) {
        int sum = 0;
        for (int[] sort : town) if (sort[1] < price) sum += sort[0];
        return sum;
    }

    int tax() {
        int best = -1, most = -1;
        for (int dear = 0; dear <= 99; dear++) {
            int buyers = 0;
            for (int[] sort : town) if (sort[1] >= dear) buyers += sort[0];
            int taken = Math.max(0, dear - now.cheap) * Math.max(0, buyers - loadsAtPrice(dear));
            if (taken > most) {
                most = taken;
                best = dear;
            }
        }
        tell(most, poorer(best));
        return best;
    }

    int without(int v) {
        if (v < 0 || v > 99) return -1;
        int bits = 0, price = 0;
        for (int i = 0; i < town.size(); i++) if (town.get(i)[1] < v) bits |= 1 << i;
        for (int x = 0; x <= v; x++) if (poorer(x) <= poorer(v) / 2) price = x;
        tell(bits, price);
        return poorer(v);
    }

    // ---- guards, thorns

    private int bestLoads;
    private int[] bestMen;

    private void place(int[] men, int mile, int left) {
        if (mile == men.length) {
            if (left > 0) return;
            State s = now.copy();
            s.men = men.clone();
            int loads = cross(s, ruling, 0).loads;
            if (bestMen == null || loads < bestLoads) {
                bestLoads = loads;
                bestMen = men.clone();
            }
            return;
        }
        for (int k = 0; k <= left; k++) {
            men[mile] = k;
            place(men, mile + 1, left - k);
        }
        men[mile] = 0;
    }

    int beats(int k) {
        if (k < 0 || k > 4) return -1;
        bestMen = null;
        place(new int[now.miles()], 0, k);
        row = new ArrayList<>();
        for (int m : bestMen) row.add((long) m);
        return bestLoads;
    }

    int thorns(int n) {
        if (n < 1 || n > 20) return -1;
        int best = -2, fewest = 0;
        for (int m = 0; m < now.miles(); m++) {
            if (now.gate[m]) continue;
            State s = now.copy();
            s.hedge[m] = 9;
            int loads = loadsIn(s, ruling, n);
            if (best == -2 || loads < fewest) {
                best = m;
                fewest = loads;
            }
        }
        if (best >= 0) tell(fewest, loadsIn(now.copy(), ruling, n));
        return best;
    }

    int walls() {
        int best = -1;
        for (int bits = 0; bits < 1 << now.miles(); bits++) {
            State s = now.copy();
            boolean fits = true;
            for (int m = 0; m < now.miles(); m++) {
                if ((bits >> m & 1) == 0) continue;
                if (s.gate[m]) fits = false;
                else turn(s, m);
            }
            if (!fits || best >= 0 && Integer.bitCount(best) <= Integer.bitCount(bits)) continue;
            int went = cross(s, ruling, 0).bits;
            for (int c = 0; c < band.size(); c++) if ((went >> c & 1) != 0 && band.get(c)[0] <= 2) fits = false;
            if (fits) best = bits;
        }
        tell(best);
        return Integer.bitCount(best);
    }

    int posts(int r) {
        if (r < 0 || r > 11) return -1;
        int best = -1;
        for (int bits = 1; bits < 1 << now.miles(); bits++) {
            boolean all = true;
            for (int m = 0; m < now.miles(); m++) {
                boolean near = false;
                for (int at = 0; at < now.miles(); at++) if ((bits >> at & 1) != 0 && Math.abs(at - m) <= r) near = true;
                all &= near;
            }
            if (all && (best < 0 || Integer.bitCount(bits) < Integer.bitCount(best))) best = bits;
        }
        tell(best);
        return Integer.bitCount(best);
    }

    int rounds(int n, int k) {
        if (n < 1 || n > 9 || k < 0 || k > 60) return -1;
        int miles = now.miles();
        boolean[] seen = new boolean[miles];
        for (int man = 0; man < n; man++) {
            int at = 2 * man % miles, step = 1;
            for (int i = 0; i < k && miles > 1; i++) {
                if (at + step < 0 || at + step >= miles) step = -step;
                at += step;
            }
            seen[at] = true;
        }
        int bits = 0;
        for (int m = 0; m < miles; m++) if (!seen[m]) bits |= 1 << m;
        tell(Integer.bitCount(bits));
        return bits;
    }

    // ---- rewards, chances

    int reward(int c) {
        if (c < 0 || c >= band.size()) return -1;
        int[] best = leastOf(now, ruling, c);
        int coins = 0;
        while (best != null && gain(now, c) > best[1] + coins) coins++;
        return coins;
    }

    int pays(int v) {
        if (v < 0 || v > 999) return -1;
        int best = -1, bestCoins = 0, bestBits = 0;
        for (int bits = 0; bits < 1 << band.size(); bits++) {
            int coins = 0;
            for (int c = 0; c < band.size(); c++) if ((bits >> c & 1) != 0) coins += reward(c);
            if (coins > v) continue;
            int loads = cross(now.copy(), ruling, bits).loads;
            if (best < 0 || loads < best || loads == best && coins < bestCoins) {
                best = loads;
                bestCoins = coins;
                bestBits = bits;
            }
        }
        tell(bestBits, bestCoins);
        return best;
    }

    int caught(int n, int k, int p) {
        if (n < 1 || n > 10 || k < 0 || k > 10 || p < 0 || p > 10) return -1;
        long[] ways = new long[n + 1];
        ways[0] = 1;
        for (int i = 0; i < n; i++) {
            for (int j = n; j >= 0; j--) ways[j] = ways[j] * (10 - p) + (j > 0 ? ways[j - 1] * p : 0);
        }
        long upper = 0, lower = 1;
        for (int j = k; j <= n; j++) upper += ways[j];
        for (int i = 0; i < n; i++) lower *= 10;
        for (int by : new int[] {2, 5}) {
            while (upper % by == 0 && lower % by == 0) {
                upper /= by;
                lower /= by;
            }
        }
        if (upper == 0) lower = 1;
        tell(upper, lower);
        return 0;
    }

    int lasts(int p, int v) {
        if (p < 0 || p > 10 || v < 0 || v > 100) return -1;
        java.math.BigDecimal left = java.math.BigDecimal.ONE;
        java.math.BigDecimal need = new java.math.BigDecimal(v).movePointLeft(2);
        int most = 0;
        for (int n = 1; n <= 12; n++) {
            left = left.multiply(new java.math.BigDecimal(10 - p)).movePointLeft(1);
            if (left.compareTo(need) >= 0) most = n;
        }
        return most;
    }

    // ---- which it was, laws

    int heard(int what, int v) {
        int[] from = {0, 1, 0}, to = {4, 9, 1};
        if (what < 0 || what > 2 || v < from[what] || v > to[what] || rumours.size() == 12) return -1;
        rumours.add(new int[] {what, v});
        return rumours.size();
    }

    int forget() {
        int many = rumours.size();
        rumours.clear();
        return many;
    }

    private List<Integer> fitting() {
        List<Integer> fit = new ArrayList<>();
        for (int c = 0; c < band.size(); c++) {
            boolean fits = true;
            for (int[] r : rumours) {
                if (r[0] == 0) fits &= band.get(c)[0] == r[1];
                if (r[0] == 1) fits &= band.get(c)[1] >= r[1];
                if (r[0] == 2) fits &= (goesWhere(now, ruling, c) >= 0 ? 1 : 0) == r[1];
            }
            if (fits) fit.add(c);
        }
        return fit;
    }

    int fits() {
        int bits = 0, loads = 0;
        for (int c : fitting()) {
            bits |= 1 << c;
            loads += band.get(c)[1];
        }
        tell(Integer.bitCount(bits), loads);
        return bits;
    }

    int ask() {
        List<Integer> fit = fitting();
        if (fit.isEmpty()) return -2;
        int best = 0, fewest = 99;
        for (int v = 1; v <= 9; v++) {
            int more = 0, less = 0;
            for (int c : fit) {
                if (band.get(c)[1] >= v) more++;
                else less++;
            }
            if (Math.max(more, less) < fewest) {
                fewest = Math.max(more, less);
                best = v;
            }
        }
        tell(fewest);
        return best;
    }

    int law() {
        String s = readText();
        int fault = ruleFault(s);
        if (fault >= 0) return -10000 - fault;
        int a = loadsIn(now.copy(), s, 10), b = loadsIn(now.copy(), ruling, 10);
        tell(a, b);
        return a - b;
    }

    // ---- rests, years

    int rests(int v, int r) {
        if (v < 0 || v > 20 || r < 0 || r > 9) return -1;
        int[][] guard = new int[10][10], carrier = new int[10][10];
        for (int x = 0; x < 10; x++) {
            for (int y = 0; y < 10; y++) {
                guard[x][y] = y >= x ? y : r;
                carrier[x][y] = y >= x ? v - y : 0;
            }
        }
        int many = 0;
        row = new ArrayList<>();
        for (int x = 0; x < 10; x++) {
            for (int y = 0; y < 10; y++) {
                boolean rest = true;
                for (int z = 0; z < 10; z++) rest &= guard[z][y] <= guard[x][y] && carrier[x][z] <= carrier[x][y];
                if (rest && many++ == 0) tell(x, y);
            }
        }
        return many;
    }

    int years(int seed, int n) {
        if (n < 1 || n > 60) return -1;
        State s = now.copy();
        int[] r = {seed};
        int loads = 0;
        for (int i = 0; i < n; i++) {
            int act = draw(r, 5);
            if (act <= 1) {
                loads += week(s, ruling).loads;
                continue;
            }
            int mile = draw(r, s.miles());
            if (act == 2) s.men[mile] = Math.min(9, s.men[mile] + 1);
            if (act == 3) s.men[mile] = Math.max(0, s.men[mile] - 1);
            if (act == 4 && !s.gate[mile]) s.hedge[mile] = Math.min(9, s.hedge[mile] + 2);
        }
        tell(s.hedges(), s.guards());
        return loads;
    }

    private static int draw(int[] r, int n) {
        r[0] = r[0] * 1103515245 + 12345;
        return (int) (Integer.toUnsignedLong(r[0]) / 65536 % n);
    }

    // ---- kept

    boolean keep(int i) {
        if (i < 0 || i > 2) return false;
        shelf[i] = now.copy();
        return true;
    }

    boolean again(int i) {
        if (i < 0 || i > 2 || shelf[i] == null) return false;
        now = shelf[i].copy();
        past.clear();
        return true;
    }

    int count(int what) {
        int gates = 0;
        for (int m = 0; m < now.miles(); m++) if (now.gate[m]) gates |= 1 << m;
        int[] all = {now.miles(), band.size(), town.size(), now.cheap, now.dear, now.week, now.over, now.guards(),
            gates, now.hedges(), sky.length(), rumours.size(), past.size(), row.size(), text.length()};
        return what < 0 || what > 14 ? -100 : all[what];
    }

    long row(int i) {
        if (i < 0 || i >= row.size()) throw new NoSuchElementException();
        return row.get(i);
    }
}
