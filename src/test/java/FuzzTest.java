import java.util.NoSuchElementException;
import java.util.Random;

/** Long runs of drawn calls, each answer and all that can be seen held against the Oracle. */
public final class FuzzTest {
    private static final long THROWN = Long.MIN_VALUE;
    private static int wrong = 0;

    private final Random random;
    private final ThornHedge hedge = new ThornHedge();
    private final Oracle oracle = new Oracle();
    private final StringBuilder told = new StringBuilder();
    private final int cheapness;

    private FuzzTest(long seed) {
        random = new Random(seed);
        cheapness = random.nextInt(3);
    }

    private interface Call {
        long answer();
    }

    private static long answerOf(Call call) {
        try {
            return call.answer();
        } catch (NoSuchElementException e) {
            return THROWN;
        }
    }

    private void same(String name, Call mine, Call due) {
        told.append(name).append('\n');
        long want = answerOf(due);
        long got;
        try {
            got = answerOf(mine);
        } catch (RuntimeException e) {
            fail(name + " threw " + e);
            return;
        }
        if (got != want) fail(name + " answered " + got + ", due is " + want);
    }

    private void fail(String what) {
        wrong++;
        if (wrong < 6) System.out.println("after\n" + tail() + what);
    }

    private String tail() {
        String all = told.toString();
        return all.length() > 4000 ? ".. " + all.substring(all.length() - 4000) : all;
    }

    private void lookAtAll() {
        for (int what = -1; what <= 15; what++) {
            int w = what;
            if (hedge.count(w) != oracle.count(w)) fail("count(" + w + ") is " + hedge.count(w) + ", due is " + oracle.count(w));
        }
        for (int i = -1; i <= oracle.row.size(); i++) {
            int at = i;
            long got = answerOf(() -> hedge.row(at)), want = answerOf(() -> oracle.row(at));
            if (got != want) fail("row(" + i + ") is " + got + ", due is " + want);
        }
        for (int m = 0; m < 13; m++) {
            for (int what = 0; what < 3; what++) {
                int mm = m, w = what;
                long got = answerOf(() -> hedge.mile(mm, w)), want = answerOf(() -> oracle.mile(mm, w));
                if (got != want) fail("mile(" + m + ", " + what + ") is " + got + ", due is " + want);
            }
        }
    }

    // ---- texts

    private char oneOf(String signs) {
        return signs.charAt(random.nextInt(signs.length()));
    }

    private String many(String signs, int most) {
        StringBuilder s = new StringBuilder();
        for (int i = 1 + random.nextInt(most); i > 0; i--) s.append(oneOf(signs));
        return s.toString();
    }

    private String expression(int depth) {
        StringBuilder s = new StringBuilder();
        int parts = 1 + random.nextInt(3);
        for (int i = 0; i < parts; i++) {
            if (i > 0) s.append(oneOf("+-*/+-*/<>="));
            while (random.nextInt(5) == 0) s.append('-');
            int sort = random.nextInt(6);
            if (sort == 0 && depth < 5) s.append('(').append(expression(depth + 1)).append(')');
            else if (sort < 3) s.append(random.nextInt(random.nextBoolean() ? 20 : 1000));
            else s.append(oneOf("hglwn"));
        }
        return s.toString();
    }

    private String lines(int most, boolean ofMouths) {
        StringBuilder s = new StringBuilder();
        for (int i = random.nextInt(most) + 1; i > 0; i--) {
            if (ofMouths) s.append(random.nextInt(100)).append(',').append(random.nextInt(100));
            else s.append(oneOf("001112233344")).append(oneOf("123456789"));
            if (i > 1) s.append(';');
        }
        return s.toString();
    }

    private String acts() {
        StringBuilder s = new StringBuilder();
        for (int i = random.nextInt(8); i > 0; i--) {
            char first = oneOf("wmpgcd");
            s.append(first);
            char letter = (char) ('a' + random.nextInt(random.nextInt(4) == 0 ? 12 : oracle.now.miles()));
            if (first == 'w') s.append(random.nextInt(4));
            if (first == 'm' || first == 'p') s.append(letter).append(first == 'm' ? oneOf("0123456789") : oneOf("123456789"));
            if (first == 'g') s.append(letter);
            if (first == 'c') s.append(0).append(random.nextInt(10));
            if (first == 'd') s.append(random.nextInt(3)).append(random.nextInt(10));
        }
        return s.toString();
    }

    /** A text about as long as the longest that is taken: parts with signs between, cut anywhere. */
    private String nearLimit(int limit, String between, String... parts) {
        StringBuilder s = new StringBuilder();
        for (int i = 0; s.length() < limit + 4; i++) {
            if (i > 0 && !between.isEmpty()) s.append(oneOf(between));
            s.append(parts[random.nextInt(parts.length)]);
        }
        return s.substring(0, limit - 3 + random.nextInt(7));
    }

    private String longText(int reader) {
        switch (reader) {
            case 0: return nearLimit(12, "", "0", "5", "G", "99");
            case 1: return nearLimit(23, ";", "09", "11", "25", "34", "48");
            case 2: return nearLimit(20, "", "f", "dd", "r", "a");
            case 3: return nearLimit(47, ";", "10,10", "99,99", "12,34", "5,5", "01,00", "77,7");
            case 4: return nearLimit(40, "+-*/", "h", "g", "-l", "(w<3)", "123", "(h*(g+1))", "--n", "((((1)=2)+h)-5)", "0", "(-(g>l))");
            default: return nearLimit(60, "", "w0", "w1", "ma3", "mb0", "pa1", "ga", "gb", "c05", "d20", "pl9");
        }
    }

    private void longTexts() {
        int reader = random.nextInt(7);
        write(longText(reader == 6 ? 4 : reader));
        switch (reader) {
            case 0: same("line()", hedge::line, oracle::line); break;
            case 1: same("carriers()", hedge::carriers, oracle::carriers); break;
            case 2: same("weather()", hedge::weather, oracle::weather); break;
            case 3: same("mouths()", hedge::mouths, oracle::mouths); break;
            case 4: same("rule()", hedge::rule, oracle::rule); break;
            case 5: same("log()", hedge::log, oracle::log); break;
            default: same("law()", hedge::law, oracle::law);
        }
    }

    private String spoilt(String s) {
        int sort = random.nextInt(8);
        if (sort > 2) return s;
        int at = random.nextInt(s.length() + 1);
        char c = random.nextBoolean() ? oneOf("0123456789Gfdra;,hglwn()+-*/<>=mpgcx") : (char) random.nextInt(256);
        if (sort == 0) return s.substring(0, at) + c + s.substring(at);
        if (sort == 1) return s.substring(0, at);
        return at < s.length() ? s.substring(0, at) + c + s.substring(at + 1) : s + s;
    }

    private void write(String plain) {
        String s = spoilt(plain);
        if (s.length() > 80) s = s.substring(0, 80);
        if (random.nextInt(20) > 0) same("end(0)", () -> hedge.end(0) ? 1 : 0, () -> oracle.end(0) ? 1 : 0);
        for (int p = 0; p < s.length(); p += 4) {
            int v = 0;
            for (int i = 0; i < 4; i++) v = v << 8 | (p + i < s.length() ? s.charAt(p + i) : random.nextInt(256));
            int word = v;
            same("sign(" + v + ")", () -> hedge.sign(word), () -> oracle.sign(word));
        }
        int n = s.length() + (random.nextInt(50) == 0 ? random.nextInt(9) - 4 : 0);
        same("end(" + n + ") '" + s + "'", () -> hedge.end(n) ? 1 : 0, () -> oracle.end(n) ? 1 : 0);
    }

    // ---- calls

    /** Mostly within the bounds, at times at them or beyond. */
    private int from(int low, int high) {
        int sort = random.nextInt(30);
        if (sort == 0) return low - 1;
        if (sort == 1) return high + 1;
        if (sort == 2) return random.nextInt();
        if (sort == 3) return random.nextBoolean() ? Integer.MIN_VALUE : Integer.MAX_VALUE;
        return low + random.nextInt(high - low + 1);
    }

    private int someMile() {
        return from(0, Math.min(11, oracle.now.miles() - 1));
    }

    private int someCarrier() {
        return from(0, Math.max(0, oracle.band.size() - 1));
    }

    private void tellCall() {
        switch (random.nextInt(9)) {
            case 0:
                write(many("0123456789G", random.nextInt(10) == 0 ? 14 : cheapness == 0 ? 12 : 5));
                same("line()", hedge::line, oracle::line);
                break;
            case 1:
                write(random.nextInt(8) == 0 ? "" : lines(random.nextInt(9) == 0 ? 9 : 3, false));
                same("carriers()", hedge::carriers, oracle::carriers);
                break;
            case 2:
                write(many("fdra", 21));
                same("weather()", hedge::weather, oracle::weather);
                break;
            case 3:
                write(random.nextInt(8) == 0 ? "" : lines(random.nextInt(9) == 0 ? 9 : 3, true));
                same("mouths()", hedge::mouths, oracle::mouths);
                break;
            case 4:
            case 5:
                write(random.nextInt(6) == 0 ? "" : expression(0));
                same("rule()", hedge::rule, oracle::rule);
                break;
            case 6:
                write(random.nextInt(8) == 0 ? "" : expression(0));
                same("law()", hedge::law, oracle::law);
                break;
            case 7:
                write(acts());
                same("log()", hedge::log, oracle::log);
                break;
            default: {
                int kind = from(0, 3), n = from(0, 12), f = random.nextBoolean() ? from(-3, 12) : random.nextInt();
                int step = random.nextInt(3) == 0 ? random.nextInt() : from(-3, 3);
                if (random.nextInt(3) == 0) step = 256 * step + 1;
                int s = step;
                same("sheet(" + kind + ", " + n + ", " + f + ", " + s + ")", () -> hedge.sheet(kind, n, f, s), () -> oracle.sheet(kind, n, f, s));
            }
        }
    }

    private void actCall() {
        int mile = someMile();
        switch (random.nextInt(9)) {
            case 0: {
                int what = from(0, 1), v = what == 0 ? from(0, 20) : from(0, 99);
                same("price(" + what + ", " + v + ")", () -> hedge.price(what, v), () -> oracle.price(what, v));
                break;
            }
            case 1: {
                int n = random.nextBoolean() ? from(0, 9) : from(0, 2);
                same("guard(" + mile + ", " + n + ")", () -> hedge.guard(mile, n), () -> oracle.guard(mile, n));
                break;
            }
            case 2: {
                int n = from(1, 9);
                same("plant(" + mile + ", " + n + ")", () -> hedge.plant(mile, n), () -> oracle.plant(mile, n));
                break;
            }
            case 3:
                same("gate(" + mile + ")", () -> hedge.gate(mile), () -> oracle.gate(mile));
                break;
            case 4:
            case 5: {
                int n = random.nextInt(4) == 0 ? from(0, 60) : from(0, 3);
                same("weeks(" + n + ")", () -> hedge.weeks(n), () -> oracle.weeks(n));
                break;
            }
            case 6:
                same("undo()", hedge::undo, oracle::undo);
                break;
            case 7: {
                int i = from(0, 2);
                same("keep(" + i + ")", () -> hedge.keep(i) ? 1 : 0, () -> oracle.keep(i) ? 1 : 0);
                break;
            }
            default: {
                int i = from(0, 2);
                same("again(" + i + ")", () -> hedge.again(i) ? 1 : 0, () -> oracle.again(i) ? 1 : 0);
            }
        }
    }

    private void smallQuestion() {
        int a = from(0, 12), b = from(0, 12), c = someCarrier(), m = someMile();
        switch (random.nextInt(16)) {
            case 0: same("carrier(" + c + ", " + a % 5 + ")", () -> hedge.carrier(c, a % 5), () -> oracle.carrier(c, a % 5)); break;
            case 1: same("mouth(" + a + ", " + b % 3 + ")", () -> hedge.mouth(a, b % 3), () -> oracle.mouth(a, b % 3)); break;
            case 2:
            case 3: same("danger(" + c + ", " + m + ")", () -> hedge.danger(c, m), () -> oracle.danger(c, m)); break;
            case 4: same("goes()", hedge::goes, oracle::goes); break;
            case 5: same("keeps()", hedge::keeps, oracle::keeps); break;
            case 6: {
                int v = from(0, 99);
                same("without(" + v + ")", () -> hedge.without(v), () -> oracle.without(v));
                break;
            }
            case 7: same("posts(" + a + ")", () -> hedge.posts(a), () -> oracle.posts(a)); break;
            case 8: {
                int n = from(1, 9), k = from(0, 60);
                same("rounds(" + n + ", " + k + ")", () -> hedge.rounds(n, k), () -> oracle.rounds(n, k));
                break;
            }
            case 9: same("reward(" + c + ")", () -> hedge.reward(c), () -> oracle.reward(c)); break;
            case 10: {
                int n = from(1, 10), k = from(0, 10), p = from(0, 10);
                same("caught(" + n + ", " + k + ", " + p + ")", () -> hedge.caught(n, k, p), () -> oracle.caught(n, k, p));
                break;
            }
            case 11: {
                int p = from(0, 10), v = from(0, 100);
                same("lasts(" + p + ", " + v + ")", () -> hedge.lasts(p, v), () -> oracle.lasts(p, v));
                break;
            }
            case 12: {
                int what = from(0, 2), v = what == 0 ? from(0, 4) : what == 1 ? from(1, 5) : from(0, 1);
                same("heard(" + what + ", " + v + ")", () -> hedge.heard(what, v), () -> oracle.heard(what, v));
                break;
            }
            case 13:
                if (random.nextInt(3) == 0) same("forget()", hedge::forget, oracle::forget);
                else same("fits()", hedge::fits, oracle::fits);
                break;
            case 14: same("ask()", hedge::ask, oracle::ask); break;
            default: {
                int v = from(0, 20), r = from(0, 9);
                same("rests(" + v + ", " + r + ")", () -> hedge.rests(v, r), () -> oracle.rests(v, r));
            }
        }
    }

    private void greatQuestion() {
        switch (random.nextInt(8)) {
            case 0: {
                int n = from(0, 99);
                same("ahead(" + n + ")", () -> hedge.ahead(n), () -> oracle.ahead(n));
                break;
            }
            case 1: same("holds()", hedge::holds, oracle::holds); break;
            case 2: same("tax()", hedge::tax, oracle::tax); break;
            case 3: {
                int k = from(0, oracle.now.miles() > 7 ? 2 : 4);
                same("beats(" + k + ")", () -> hedge.beats(k), () -> oracle.beats(k));
                break;
            }
            case 4: {
                int n = random.nextBoolean() ? from(1, 20) : from(1, 3);
                same("thorns(" + n + ")", () -> hedge.thorns(n), () -> oracle.thorns(n));
                break;
            }
            case 5:
                if (oracle.now.miles() < 9 || random.nextInt(20) == 0) same("walls()", hedge::walls, oracle::walls);
                break;
            case 6: {
                int v = random.nextInt(4) == 0 ? from(0, 999) : from(0, 99);
                same("pays(" + v + ")", () -> hedge.pays(v), () -> oracle.pays(v));
                break;
            }
            default: {
                int seed = random.nextInt(), n = from(1, 60);
                same("years(" + seed + ", " + n + ")", () -> hedge.years(seed, n), () -> oracle.years(seed, n));
            }
        }
    }

    private void run(int calls) {
        for (int i = 0; i < calls && wrong < 6; i++) {
            int sort = random.nextInt(10);
            if (random.nextInt(20) == 0) longTexts();
            else if (sort < 2 || i < 6) tellCall();
            else if (sort < 5) actCall();
            else if (sort < 8) smallQuestion();
            else greatQuestion();
            lookAtAll();
        }
    }

    public static void main(String[] args) {
        int runs = args.length > 0 ? Integer.parseInt(args[0]) : 300;
        long first = args.length > 1 ? Long.parseLong(args[1]) : 1;
        int calls = args.length > 2 ? Integer.parseInt(args[2]) : 120;
        for (int i = 0; i < runs && wrong < 6; i++) new FuzzTest(first + i).run(calls);
        System.out.println("FuzzTest: " + runs + " runs, " + wrong + " answers are not as due");
        if (wrong != 0) System.exit(1);
    }
}
