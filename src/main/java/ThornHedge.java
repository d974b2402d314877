import java.util.Arrays;
import java.util.NoSuchElementException;

/**
 * A hedge of thorns between cheap salt and dear salt: its miles, the carriers who cross it,
 * the weeks that go by, and the questions that a government asks of it.
 *
 * <p>Every row that a call needs is made with the object and used again, so that a long run of
 * calls makes no new objects.
 */
public final class ThornHedge {
    public static final int NONE = -1;

    private static final int CANNOT = -2;
    private static final int MISSING = -3;
    private static final int UNKNOWN = -100;
    private static final int LAW_FAULT = -10000;
    private static final int MORE_THAN_ALL = 1000000;

    private static final int MOST_MILES = 12;
    private static final int MOST_CARRIERS = 8;
    private static final int MOST_SORTS = 8;
    private static final int MOST_HEDGE = 9;
    private static final int MOST_MEN = 9;
    private static final int MOST_PRICE = 99;

    private static final int TEXT_SIGNS = 80;
    private static final int WEATHER_SIGNS = 20;
    private static final int CARRIER_SIGNS = 23;
    private static final int MOUTH_SIGNS = 47;
    private static final int RULE_SIGNS = 40;
    private static final int LOG_SIGNS = 60;

    private static final int CAMELS = 1;
    private static final int FLOOD = 2;
    private static final int BREAD = 3;
    private static final int EARTH = 4;

    private final Text text;
    private final Band band;
    private final Sky sky;
    private final Town town;
    private final Crossing crossing;
    private final Land land;
    private final Land trial;
    private final Land before;
    private final Past past;
    private final Shelf shelf;
    private final Rumours rumours;
    private final Told told;
    private final int[] rewards;
    private final int[] placing;
    private Rule ruling;
    private Rule spareRule;
    private int drawn;

    public ThornHedge() {
        text = new Text();
        band = new Band();
        sky = new Sky();
        town = new Town();
        crossing = new Crossing(band, sky);
        land = new Land();
        trial = new Land();
        before = new Land();
        past = new Past();
        shelf = new Shelf();
        rumours = new Rumours();
        told = new Told();
        rewards = new int[MOST_CARRIERS];
        placing = new int[MOST_MILES];
        ruling = new Rule();
        spareRule = new Rule();
    }

    // ---- the line, carriers

    public int sign(int v) {
        return text.take(v) ? text.size() : NONE;
    }

    public boolean end(int n) {
        return text.cut(n);
    }

    public int line() {
        int fault = lineFault();
        if (fault == NONE) {
            land.beginAnew(text);
            past.clear();
            shelf.clear();
        }
        text.clear();
        return fault == NONE ? land.miles() : -1 - fault;
    }

    private int lineFault() {
        if (text.size() == 0) {
            return 0;
        }
        for (int p = 0; p < text.size() && p < MOST_MILES; p++) {
            int sign = text.at(p);
            if (sign != 'G' && !isDigit(sign)) {
                return p;
            }
        }
        return text.size() > MOST_MILES ? MOST_MILES : NONE;
    }

    public int carriers() {
        int answer = band.read(text);
        text.clear();
        return answer;
    }

    public int weather() {
        int answer = sky.read(text);
        text.clear();
        return answer;
    }

    public int mouths() {
        int answer = town.read(text);
        text.clear();
        return answer;
    }

    public int rule() {
        int fault = spareRule.read(text);
        text.clear();
        if (fault != NONE) {
            return -1 - fault;
        }
        Rule old = ruling;
        ruling = spareRule;
        spareRule = old;
        return 0;
    }

    public int mile(int mile, int what) throws NoSuchElementException {
        if (!land.has(mile) || what < 0 || what > 2) {
            throw new NoSuchElementException();
        }
        if (what == 0) {
            return land.hedgeAt(mile);
        }
        if (what == 1) {
            return land.hasGate(mile) ? 1 : 0;
        }
        return land.menAt(mile);
    }

    public int carrier(int carrier, int what) throws NoSuchElementException {
        if (!band.has(carrier) || what < 0 || what > 3) {
            throw new NoSuchElementException();
        }
        if (what == 0) {
            return band.kindOf(carrier);
        }
        if (what == 1) {
            return band.loadOf(carrier);
        }
        if (what == 2) {
            return crossing.goal(ruling, land, carrier);
        }
        return crossing.safest(ruling, land, carrier) == NONE ? NONE : crossing.least();
    }

    public int mouth(int sort, int what) throws NoSuchElementException {
        if (!town.has(sort) || what < 0 || what > 1) {
            throw new NoSuchElementException();
        }
        return what == 0 ? town.peopleOf(sort) : town.purseOf(sort);
    }

    public int danger(int carrier, int mile) {
        if (!band.has(carrier) || !land.has(mile)) {
            return NONE;
        }
        return crossing.dangerOf(ruling, land, carrier, mile);
    }

    public int sheet(int kind, int n, int f, int step) {
        if (kind < 0 || kind > 3 || n > MOST_MILES) {
            return NONE;
        }
        if (kind < 3 && n < 0) {
            return CANNOT;
        }
        int entries = kind == 3 ? 0 : n;
        for (int m = 0; m < land.miles(); m++) {
            land.setHedge(m, m < entries ? entry(kind, f + m * step) : 0);
        }
        return kind == 3 ? MISSING : land.allHedges();
    }

    private static int entry(int kind, int v) {
        if (kind == 0) {
            return (byte) v;
        }
        return kind == 1 ? (short) v : v;
    }

    // ---- weeks

    public int price(int what, int v) {
        before.copyFrom(land);
        return remembered(setPrice(what, v));
    }

    public int guard(int mile, int n) {
        before.copyFrom(land);
        return remembered(setGuard(mile, n));
    }

    public int plant(int mile, int n) {
        before.copyFrom(land);
        return remembered(addThorns(mile, n));
    }

    public int gate(int mile) {
        before.copyFrom(land);
        return remembered(turnGate(mile));
    }

    public int weeks(int n) {
        if (n < 0 || n > 60) {
            return NONE;
        }
        before.copyFrom(land);
        int loads = remembered(crossing.pass(ruling, land, n));
        told.two(crossing.everWent(), land.allHedges());
        return loads;
    }

    public int log() {
        int fault = logFault();
        if (fault != NONE) {
            text.clear();
            return -1 - fault;
        }
        before.copyFrom(land);
        int done = 0;
        int refused = 0;
        int p = 0;
        for (int turn = 0; turn < LOG_SIGNS && p < text.size() && refused == 0; turn++) {
            if (doAct(p) < 0) {
                refused = 1;
            } else {
                done++;
            }
            p += actLength(text.at(p));
        }
        if (done > 0) {
            past.push(before);
        }
        text.clear();
        told.two(refused, land.over());
        return done;
    }

    public int undo() {
        return past.pop(land) ? past.size() : NONE;
    }

    /** What an act answered; one that was not refused can be undone from here on. */
    private int remembered(int answer) {
        if (answer >= 0) {
            past.push(before);
        }
        return answer;
    }

    private int setPrice(int what, int v) {
        if (what < 0 || what > 1 || v < 0 || v > MOST_PRICE) {
            return NONE;
        }
        int old = what == 0 ? land.cheap() : land.dear();
        if (what == 0) {
            land.setCheap(v);
        } else {
            land.setDear(v);
        }
        return old;
    }

    private int setGuard(int mile, int n) {
        if (!land.has(mile) || n < 0 || n > MOST_MEN) {
            return NONE;
        }
        land.setMen(mile, n);
        return land.allMen();
    }

    private int addThorns(int mile, int n) {
        if (!land.has(mile) || n < 1 || n > MOST_HEDGE) {
            return NONE;
        }
        if (land.hasGate(mile)) {
            return CANNOT;
        }
        land.setHedge(mile, land.hedgeAt(mile) + n);
        return land.hedgeAt(mile);
    }

    private int turnGate(int mile) {
        if (!land.has(mile)) {
            return NONE;
        }
        land.turnGate(mile);
        return Integer.bitCount(land.gates());
    }

    private int logFault() {
        int limit = Math.min(text.size(), LOG_SIGNS);
        int p = 0;
        for (int turn = 0; turn < LOG_SIGNS && p < limit; turn++) {
            int first = text.at(p);
            int length = actLength(first);
            if (length == 0) {
                return p;
            }
            for (int i = 1; i < length; i++) {
                if (p + i >= limit) {
                    return limit;
                }
                if (!fitsAct(first, i, text.at(p + i))) {
                    return p + i;
                }
            }
            p += length;
        }
        return text.size() > LOG_SIGNS ? LOG_SIGNS : NONE;
    }

    private static int actLength(int first) {
        switch (first) {
            case 'w':
            case 'g':
                return 2;
            case 'm':
            case 'p':
            case 'c':
            case 'd':
                return 3;
            default:
                return 0;
        }
    }

    private static boolean fitsAct(int first, int place, int sign) {
        boolean ofMile = first == 'm' || first == 'p' || first == 'g';
        if (place == 1 && ofMile) {
            return sign >= 'a' && sign <= 'l';
        }
        return isDigit(sign) && !(first == 'p' && sign == '0');
    }

    private int doAct(int p) {
        int mile = text.at(p + 1) - 'a';
        switch (text.at(p)) {
            case 'w':
                return crossing.pass(ruling, land, text.number(p + 1, 1));
            case 'm':
                return setGuard(mile, text.number(p + 2, 1));
            case 'p':
                return addThorns(mile, text.number(p + 2, 1));
            case 'g':
                return turnGate(mile);
            case 'c':
                return setPrice(0, text.number(p + 1, 2));
            case 'd':
                return setPrice(1, text.number(p + 1, 2));
            default:
                return NONE;
        }
    }

    // ---- what comes over

    public int goes() {
        trial.copyFrom(land);
        int loads = crossing.cross(ruling, trial, 0);
        told.two(loads, crossing.busiest());
        return crossing.went();
    }

    public int ahead(int n) {
        if (n < 0 || n > 99) {
            return NONE;
        }
        trial.copyFrom(land);
        int loads = crossing.pass(ruling, trial, n);
        told.two(trial.allHedges(), crossing.quietWeeks());
        return loads;
    }

    public int holds() {
        trial.copyFrom(land);
        for (int week = 0; week < 99; week++) {
            if (crossing.pass(ruling, trial, 1) > 0) {
                told.one(crossing.went());
                return week;
            }
        }
        return CANNOT;
    }

    /** While nobody goes, nothing changes in the week: each carrier sets a bound of its own. */
    public int keeps() {
        int most = MOST_PRICE;
        for (int c = 0; c < band.size(); c++) {
            int load = band.loadOf(c);
            if (load > 0 && crossing.safest(ruling, land, c) != NONE) {
                most = Math.min(most, land.cheap() + crossing.least() / load);
            }
        }
        return most;
    }

    public int tax() {
        int best = 0;
        int most = -1;
        for (int dear = 0; dear <= MOST_PRICE; dear++) {
            int taken = takenAt(dear);
            if (taken > most) {
                most = taken;
                best = dear;
            }
        }
        told.two(most, town.poorer(best));
        return best;
    }

    private int takenAt(int dear) {
        int more = Math.max(0, dear - land.cheap());
        if (more == 0) {
            return 0;
        }
        trial.copyFrom(land);
        trial.setDear(dear);
        int loads = crossing.cross(ruling, trial, 0);
        return more * Math.max(0, town.everyone() - town.poorer(dear) - loads);
    }

    public int without(int v) {
        if (v < 0 || v > MOST_PRICE) {
            return NONE;
        }
        int many = town.poorer(v);
        int price = v;
        while (price > 0 && town.poorer(price) > many / 2) {
            price--;
        }
        told.two(town.poorerSorts(v), price);
        return many;
    }

    // ---- guards, thorns

    public int beats(int k) {
        if (k < 0 || k > 4) {
            return NONE;
        }
        Arrays.fill(placing, 0);
        int last = Math.min(land.miles(), placing.length) - 1;
        if (last < 0) {
            return NONE;
        }
        placing[last] = k;
        int best = MORE_THAN_ALL;
        boolean more = true;
        for (int turn = 0; turn < 100000 && more && best > 0; turn++) {
            int loads = loadsPlaced();
            if (loads < best) {
                best = loads;
                told.these(placing, last + 1);
            }
            more = nextPlacing(last);
        }
        return best;
    }

    private int loadsPlaced() {
        trial.copyFrom(land);
        for (int m = 0; m < land.miles() && m < placing.length; m++) {
            trial.setMen(m, placing[m]);
        }
        return crossing.cross(ruling, trial, 0);
    }

    /** The next greater row with as many men; going up, the first good one is the least. */
    private boolean nextPlacing(int last) {
        int from = last;
        while (from > 0 && placing[from] == 0) {
            from--;
        }
        if (from <= 0) {
            return false;
        }
        int men = placing[from];
        placing[from] = 0;
        placing[from - 1]++;
        placing[last] = men - 1;
        return true;
    }

    public int thorns(int n) {
        if (n < 1 || n > 20) {
            return NONE;
        }
        int best = NONE;
        int fewest = 0;
        for (int m = 0; m < land.miles(); m++) {
            if (land.hasGate(m)) {
                continue;
            }
            trial.copyFrom(land);
            trial.setHedge(m, MOST_HEDGE);
            int loads = crossing.pass(ruling, trial, n);
            if (best == NONE || loads < fewest) {
                best = m;
                fewest = loads;
            }
        }
        if (best == NONE) {
            return CANNOT;
        }
        trial.copyFrom(land);
        told.two(fewest, crossing.pass(ruling, trial, n));
        return best;
    }

    /**
     * A gate changes no danger at another mile, and while no camels go no hedge changes: so just
     * the miles where somebody would gain must be gates, and these are the fewest.
     */
    public int walls() {
        int bits = 0;
        for (int m = 0; m < land.miles(); m++) {
            if (drawsOver(m)) {
                bits |= 1 << m;
            }
        }
        told.one(bits);
        return Integer.bitCount(bits);
    }

    private boolean drawsOver(int mile) {
        for (int c = 0; c < band.size(); c++) {
            if (band.kindOf(c) > FLOOD) {
                continue;
            }
            int danger = crossing.dangerOf(ruling, land, c, mile);
            if (danger != CANNOT && crossing.gain(land, c) > danger) {
                return true;
            }
        }
        return false;
    }

    public int posts(int r) {
        if (r < 0 || r > 11) {
            return NONE;
        }
        int all = (1 << land.miles()) - 1;
        int best = all;
        for (int bits = 1; bits <= all; bits++) {
            if (Integer.bitCount(bits) < Integer.bitCount(best) && (near(bits, r) & all) == all) {
                best = bits;
            }
        }
        told.one(best);
        return Integer.bitCount(best);
    }

    private static int near(int bits, int r) {
        int reached = bits;
        for (int i = 0; i < r; i++) {
            reached |= reached << 1 | reached >> 1;
        }
        return reached;
    }

    public int rounds(int n, int k) {
        if (n < 1 || n > 9 || k < 0 || k > 60) {
            return NONE;
        }
        int miles = land.miles();
        int bits = (1 << miles) - 1;
        for (int man = 0; man < n; man++) {
            bits &= ~(1 << walked(2 * man, k, miles));
        }
        told.one(Integer.bitCount(bits));
        return bits;
    }

    private static int walked(int start, int k, int miles) {
        if (miles < 2) {
            return 0;
        }
        int wayRound = 2 * (miles - 1);
        int steps = (start % miles + k) % wayRound;
        return steps < miles ? steps : wayRound - steps;
    }

    // ---- rewards, chances

    public int reward(int carrier) {
        return band.has(carrier) ? rewardOf(carrier) : NONE;
    }

    private int rewardOf(int carrier) {
        if (crossing.goal(ruling, land, carrier) == NONE) {
            return 0;
        }
        return crossing.gain(land, carrier) - crossing.least();
    }

    public int pays(int v) {
        if (v < 0 || v > 999) {
            return NONE;
        }
        for (int c = 0; c < band.size() && c < rewards.length; c++) {
            rewards[c] = rewardOf(c);
        }
        int best = MORE_THAN_ALL;
        int bestCoins = 0;
        int bestBits = 0;
        for (int bits = 0; bits < 1 << band.size(); bits++) {
            int coins = coinsFor(bits);
            if (coins > v) {
                continue;
            }
            trial.copyFrom(land);
            int loads = crossing.cross(ruling, trial, bits);
            if (loads < best || loads == best && coins < bestCoins) {
                best = loads;
                bestCoins = coins;
                bestBits = bits;
            }
        }
        told.two(bestBits, bestCoins);
        return best;
    }

    private int coinsFor(int bits) {
        int coins = 0;
        for (int c = 0; c < band.size() && c < rewards.length; c++) {
            if ((bits >> c & 1) != 0) {
                coins += rewards[c];
            }
        }
        return coins;
    }

    public int caught(int n, int k, int p) {
        if (n < 1 || n > 10 || k < 0 || k > 10 || p < 0 || p > 10) {
            return NONE;
        }
        long upper = 0;
        for (int i = k; i <= n; i++) {
            upper += choices(n, i) * power(p, i) * power(10 - p, n - i);
        }
        long lower = power(10, n);
        long shared = commonDivisor(upper, lower);
        if (shared > 0) {
            upper /= shared;
            lower /= shared;
        }
        told.two(upper, lower);
        return 0;
    }

    private static long choices(int n, int k) {
        long many = 1;
        for (int i = 1; i <= k; i++) {
            many = many * (n - k + i) / i;
        }
        return many;
    }

    private static long power(int base, int exponent) {
        long result = 1;
        for (int i = 0; i < exponent; i++) {
            result *= base;
        }
        return result;
    }

    private static long commonDivisor(long a, long b) {
        for (int turn = 0; turn < 1000 && b != 0; turn++) {
            long rest = a % b;
            a = b;
            b = rest;
        }
        return a;
    }

    public int lasts(int p, int v) {
        if (p < 0 || p > 10 || v < 0 || v > 100) {
            return NONE;
        }
        int most = 0;
        for (int n = 1; n <= 12; n++) {
            if (100 * power(10 - p, n) >= v * power(10, n)) {
                most = n;
            }
        }
        return most;
    }

    // ---- which it was, laws

    public int heard(int what, int v) {
        return rumours.hear(what, v) ? rumours.size() : NONE;
    }

    public int forget() {
        int many = rumours.size();
        rumours.clear();
        return many;
    }

    public int fits() {
        int bits = fitting();
        told.two(Integer.bitCount(bits), band.loadsOf(bits));
        return bits;
    }

    private int fitting() {
        int bits = 0;
        for (int c = 0; c < band.size(); c++) {
            boolean goesNow = crossing.goal(ruling, land, c) != NONE;
            if (rumours.allow(band.kindOf(c), band.loadOf(c), goesNow)) {
                bits |= 1 << c;
            }
        }
        return bits;
    }

    public int ask() {
        int bits = fitting();
        if (bits == 0) {
            return CANNOT;
        }
        int all = Integer.bitCount(bits);
        int best = 1;
        int fewest = all;
        for (int v = 1; v <= 9; v++) {
            int heavy = Integer.bitCount(bits & band.heavy(v));
            int left = Math.max(heavy, all - heavy);
            if (left < fewest) {
                fewest = left;
                best = v;
            }
        }
        told.one(fewest);
        return best;
    }

    public int law() {
        int fault = spareRule.read(text);
        text.clear();
        if (fault != NONE) {
            return LAW_FAULT - fault;
        }
        trial.copyFrom(land);
        int byIt = crossing.pass(spareRule, trial, 10);
        trial.copyFrom(land);
        int byRule = crossing.pass(ruling, trial, 10);
        told.two(byIt, byRule);
        return byIt - byRule;
    }

    // ---- rests, years

    public int rests(int v, int r) {
        if (v < 0 || v > 20 || r < 0 || r > 9) {
            return NONE;
        }
        int many = 0;
        told.nothing();
        for (int x = 0; x <= 9; x++) {
            for (int y = 0; y <= 9; y++) {
                if (!isRest(x, y, v, r)) {
                    continue;
                }
                if (many == 0) {
                    told.two(x, y);
                }
                many++;
            }
        }
        return many;
    }

    private static boolean isRest(int x, int y, int v, int r) {
        for (int z = 0; z <= 9; z++) {
            if (guardHas(z, y, r) > guardHas(x, y, r) || carrierHas(x, z, v) > carrierHas(x, y, v)) {
                return false;
            }
        }
        return true;
    }

    private static int guardHas(int x, int y, int r) {
        return y >= x ? y : r;
    }

    private static int carrierHas(int x, int y, int v) {
        return y >= x ? v - y : 0;
    }

    public int years(int seed, int n) {
        if (n < 1 || n > 60) {
            return NONE;
        }
        trial.copyFrom(land);
        drawn = seed;
        int loads = 0;
        for (int i = 0; i < n; i++) {
            loads += drawnAct(draw(5));
        }
        told.two(trial.allHedges(), trial.allMen());
        return loads;
    }

    private int drawnAct(int act) {
        if (act <= 1) {
            return crossing.pass(ruling, trial, 1);
        }
        int mile = draw(trial.miles());
        if (act == 2) {
            trial.setMen(mile, trial.menAt(mile) + 1);
        } else if (act == 3) {
            trial.setMen(mile, trial.menAt(mile) - 1);
        } else if (!trial.hasGate(mile)) {
            trial.setHedge(mile, trial.hedgeAt(mile) + 2);
        }
        return 0;
    }

    private int draw(int n) {
        drawn = drawn * 1103515245 + 12345;
        return n > 0 ? (drawn >>> 16) % n : 0;
    }

    // ---- kept

    public boolean keep(int i) {
        return shelf.put(i, land);
    }

    public boolean again(int i) {
        if (!shelf.take(i, land)) {
            return false;
        }
        past.clear();
        return true;
    }

    public int count(int what) {
        switch (what) {
            case 0: return land.miles();
            case 1: return band.size();
            case 2: return town.size();
            case 3: return land.cheap();
            case 4: return land.dear();
            case 5: return land.week();
            case 6: return land.over();
            case 7: return land.allMen();
            case 8: return land.gates();
            case 9: return land.allHedges();
            case 10: return sky.size();
            case 11: return rumours.size();
            case 12: return past.size();
            case 13: return told.size();
            case 14: return text.size();
            default: return UNKNOWN;
        }
    }

    public long row(int i) throws NoSuchElementException {
        if (i < 0 || i >= told.size()) {
            throw new NoSuchElementException();
        }
        return told.at(i);
    }

    private static boolean isDigit(int sign) {
        return sign >= '0' && sign <= '9';
    }

    private static int within(int v, int most) {
        return v < 0 ? 0 : v > most ? most : v;
    }

    /** THE TEXT: the signs that have come and were not read yet. */
    private static final class Text {
        private final int[] signs = new int[TEXT_SIGNS];
        private int size;

        int size() {
            return size;
        }

        int at(int p) {
            return p >= 0 && p < size && p < signs.length ? signs[p] : NONE;
        }

        boolean take(int v) {
            if (size < 0 || size + 4 > signs.length) {
                return false;
            }
            for (int i = 0; i < 4; i++) {
                signs[size + i] = v >>> 24 - 8 * i & 255;
            }
            size += 4;
            return true;
        }

        boolean cut(int n) {
            if (n < 0 || n > size) {
                return false;
            }
            size = n;
            return true;
        }

        void clear() {
            size = 0;
        }

        int digits(int from, int most, int limit) {
            int many = 0;
            while (many < most && from + many < limit && isDigit(at(from + many))) {
                many++;
            }
            return many;
        }

        int number(int from, int many) {
            int value = 0;
            for (int i = 0; i < many; i++) {
                value = 10 * value + at(from + i) - '0';
            }
            return value;
        }
    }

    /** The ROW. */
    private static final class Told {
        private final long[] numbers = new long[MOST_MILES];
        private int size;

        int size() {
            return size;
        }

        long at(int i) {
            return i >= 0 && i < size && i < numbers.length ? numbers[i] : 0;
        }

        void nothing() {
            size = 0;
        }

        void one(long a) {
            numbers[0] = a;
            size = 1;
        }

        void two(long a, long b) {
            numbers[0] = a;
            numbers[1] = b;
            size = 2;
        }

        void these(int[] row, int many) {
            size = 0;
            for (int i = 0; i < many && i < row.length && i < numbers.length; i++) {
                numbers[i] = row[i];
                size = i + 1;
            }
        }
    }

    /** All that weeks and acts change: what undo() and again() bring back. */
    private static final class Land {
        private final int[] hedges = new int[MOST_MILES];
        private final int[] men = new int[MOST_MILES];
        private int miles = 1;
        private int gates;
        private int allMen;
        private int manned;
        private int cheap = 5;
        private int dear = 20;
        private int week;
        private int over;

        void copyFrom(Land other) {
            System.arraycopy(other.hedges, 0, hedges, 0, MOST_MILES);
            System.arraycopy(other.men, 0, men, 0, MOST_MILES);
            miles = other.miles;
            gates = other.gates;
            allMen = other.allMen;
            manned = other.manned;
            cheap = other.cheap;
            dear = other.dear;
            week = other.week;
            over = other.over;
        }

        void beginAnew(Text text) {
            Arrays.fill(hedges, 0);
            Arrays.fill(men, 0);
            miles = Math.max(1, Math.min(text.size(), MOST_MILES));
            gates = 0;
            allMen = 0;
            manned = 0;
            week = 0;
            over = 0;
            for (int m = 0; m < miles; m++) {
                if (text.at(m) == 'G') {
                    gates |= 1 << m;
                } else {
                    setHedge(m, text.number(m, 1));
                }
            }
        }

        boolean has(int mile) {
            return mile >= 0 && mile < miles && mile < MOST_MILES;
        }

        int miles() {
            return miles;
        }

        int hedgeAt(int mile) {
            return has(mile) ? hedges[mile] : 0;
        }

        void setHedge(int mile, int v) {
            if (has(mile)) {
                hedges[mile] = within(v, MOST_HEDGE);
            }
        }

        int allHedges() {
            int sum = 0;
            for (int m = 0; m < miles; m++) {
                sum += hedgeAt(m);
            }
            return sum;
        }

        boolean hasGate(int mile) {
            return has(mile) && (gates >> mile & 1) != 0;
        }

        int gates() {
            return gates;
        }

        void turnGate(int mile) {
            if (!has(mile)) {
                return;
            }
            gates ^= 1 << mile;
            if (hasGate(mile)) {
                hedges[mile] = 0;
            }
        }

        int menAt(int mile) {
            return has(mile) ? men[mile] : 0;
        }

        /** Sums are carried along here, as every danger asks for them. */
        void setMen(int mile, int n) {
            if (!has(mile)) {
                return;
            }
            int old = men[mile];
            int now = within(n, MOST_MEN);
            men[mile] = now;
            allMen += now - old;
            manned += (now > 0 ? 1 : 0) - (old > 0 ? 1 : 0);
        }

        int allMen() {
            return allMen;
        }

        int mannedBeside(int mile) {
            return has(mile) && men[mile] > 0 ? manned - 1 : manned;
        }

        int cheap() {
            return cheap;
        }

        void setCheap(int v) {
            cheap = v;
        }

        int dear() {
            return dear;
        }

        void setDear(int v) {
            dear = v;
        }

        int week() {
            return week;
        }

        int over() {
            return over;
        }

        void comeOver(int loads) {
            over += loads;
        }

        void endWeek(int weather) {
            if (weather == 'd' || weather == 'r') {
                for (int m = 0; m < miles; m++) {
                    setHedge(m, hedgeAt(m) + (weather == 'r' ? 1 : -1));
                }
            } else if (weather == 'a' && miles > 0) {
                setHedge(Math.floorMod(week, miles), 0);
            }
            week++;
        }
    }

    /** The latest lands that can be brought back; the oldest gives way to a new one. */
    private static final class Past {
        private static final int MOST = 15;
        private final Land[] lands = new Land[MOST];
        private int next;
        private int size;

        Past() {
            for (int i = 0; i < MOST; i++) {
                lands[i] = new Land();
            }
        }

        int size() {
            return size;
        }

        void clear() {
            size = 0;
        }

        void push(Land land) {
            if (next < 0 || next >= MOST || lands[next] == null) {
                return;
            }
            lands[next].copyFrom(land);
            next = (next + 1) % MOST;
            size = Math.min(size + 1, MOST);
        }

        boolean pop(Land land) {
            int latest = (next + MOST - 1) % MOST;
            if (size <= 0 || latest < 0 || latest >= MOST || lands[latest] == null) {
                return false;
            }
            land.copyFrom(lands[latest]);
            next = latest;
            size--;
            return true;
        }
    }

    /** What keep() keeps. */
    private static final class Shelf {
        private static final int MOST = 3;
        private final Land[] lands = new Land[MOST];
        private int filled;

        Shelf() {
            for (int i = 0; i < MOST; i++) {
                lands[i] = new Land();
            }
        }

        void clear() {
            filled = 0;
        }

        boolean put(int i, Land land) {
            if (i < 0 || i >= MOST || lands[i] == null) {
                return false;
            }
            lands[i].copyFrom(land);
            filled |= 1 << i;
            return true;
        }

        boolean take(int i, Land land) {
            if (i < 0 || i >= MOST || lands[i] == null || (filled >> i & 1) == 0) {
                return false;
            }
            land.copyFrom(lands[i]);
            return true;
        }
    }

    /** CARRIERS. */
    private static final class Band {
        private final int[] kinds = new int[MOST_CARRIERS];
        private final int[] loads = new int[MOST_CARRIERS];
        private int size;

        /** Lines are written behind those that count, and count only when all could be read. */
        int read(Text text) {
            int limit = Math.min(text.size(), CARRIER_SIGNS);
            for (int p = 0; p < limit; p++) {
                if (!readSign(text.at(p), p % 3, size + p / 3)) {
                    return -1 - p;
                }
            }
            if (text.size() == 0) {
                return 0;
            }
            if (text.size() > CARRIER_SIGNS || limit % 3 != 2) {
                return -1 - limit;
            }
            int lines = (limit + 1) / 3;
            size += lines;
            return lines;
        }

        private boolean readSign(int sign, int place, int slot) {
            if (place == 2) {
                return sign == ';';
            }
            if (slot < 0 || slot >= MOST_CARRIERS) {
                return false;
            }
            if (place == 0) {
                kinds[slot] = sign - '0';
                return sign >= '0' && sign <= '4';
            }
            loads[slot] = sign - '0';
            return sign >= '1' && sign <= '9';
        }

        int size() {
            return size;
        }

        boolean has(int carrier) {
            return carrier >= 0 && carrier < size && carrier < MOST_CARRIERS;
        }

        int kindOf(int carrier) {
            return has(carrier) ? kinds[carrier] : NONE;
        }

        int loadOf(int carrier) {
            return has(carrier) ? loads[carrier] : 0;
        }

        int loadsOf(int bits) {
            int sum = 0;
            for (int c = 0; c < size; c++) {
                if ((bits >> c & 1) != 0) {
                    sum += loadOf(c);
                }
            }
            return sum;
        }

        int heavy(int load) {
            int bits = 0;
            for (int c = 0; c < size; c++) {
                if (loadOf(c) >= load) {
                    bits |= 1 << c;
                }
            }
            return bits;
        }
    }

    /** WEATHER. */
    private static final class Sky {
        private final int[] signs = new int[WEATHER_SIGNS];
        private int size = 1;

        Sky() {
            signs[0] = 'f';
        }

        int size() {
            return size;
        }

        int read(Text text) {
            if (text.size() == 0) {
                return NONE;
            }
            for (int p = 0; p < text.size() && p < WEATHER_SIGNS; p++) {
                int sign = text.at(p);
                if (sign != 'f' && sign != 'd' && sign != 'r' && sign != 'a') {
                    return -1 - p;
                }
            }
            if (text.size() > WEATHER_SIGNS) {
                return -1 - WEATHER_SIGNS;
            }
            size = text.size();
            for (int p = 0; p < size && p < WEATHER_SIGNS; p++) {
                signs[p] = text.at(p);
            }
            return size;
        }

        int of(int week) {
            if (size < 1 || size > WEATHER_SIGNS) {
                return 'f';
            }
            int place = Math.floorMod(week, size);
            return place >= 0 && place < WEATHER_SIGNS ? signs[place] : 'f';
        }
    }

    /** MOUTHS. */
    private static final class Town {
        private final int[] people = new int[MOST_SORTS];
        private final int[] purses = new int[MOST_SORTS];
        private int size;

        int read(Text text) {
            if (text.size() == 0) {
                return 0;
            }
            int limit = Math.min(text.size(), MOUTH_SIGNS);
            int p = 0;
            for (int line = 0; line < MOST_SORTS && size + line < MOST_SORTS; line++) {
                int behind = readLine(text, p, limit, size + line);
                if (behind < 0) {
                    return behind;
                }
                if (behind >= limit && text.size() <= MOUTH_SIGNS) {
                    size += line + 1;
                    return line + 1;
                }
                if (behind >= limit || text.at(behind) != ';') {
                    return -1 - behind;
                }
                p = behind + 1;
            }
            return -1 - p;
        }

        /** Where the line ends, or -1 - p. */
        private int readLine(Text text, int p, int limit, int slot) {
            int digits = text.digits(p, 2, limit);
            if (digits == 0 || slot < 0 || slot >= MOST_SORTS) {
                return -1 - p;
            }
            int comma = p + digits;
            people[slot] = text.number(p, digits);
            if (people[slot] == 0) {
                return -1 - (comma - 1);
            }
            if (comma >= limit || text.at(comma) != ',') {
                return -1 - comma;
            }
            digits = text.digits(comma + 1, 2, limit);
            if (digits == 0) {
                return -1 - (comma + 1);
            }
            purses[slot] = text.number(comma + 1, digits);
            return comma + 1 + digits;
        }

        int size() {
            return size;
        }

        boolean has(int sort) {
            return sort >= 0 && sort < size && sort < MOST_SORTS;
        }

        int peopleOf(int sort) {
            return has(sort) ? people[sort] : 0;
        }

        int purseOf(int sort) {
            return has(sort) ? purses[sort] : 0;
        }

        int everyone() {
            int sum = 0;
            for (int s = 0; s < size; s++) {
                sum += peopleOf(s);
            }
            return sum;
        }

        int poorer(int price) {
            int sum = 0;
            for (int s = 0; s < size; s++) {
                if (purseOf(s) < price) {
                    sum += peopleOf(s);
                }
            }
            return sum;
        }

        int poorerSorts(int price) {
            int bits = 0;
            for (int s = 0; s < size; s++) {
                if (purseOf(s) < price) {
                    bits |= 1 << s;
                }
            }
            return bits;
        }
    }

    /**
     * A rule of danger. It is kept as steps, each act behind what it acts upon, so that a text is
     * read once and not at every crossing. Steps of 0 or more are numbers.
     */
    private static final class Rule {
        private static final int HEDGE = -1;
        private static final int MEN = -2;
        private static final int LOAD = -3;
        private static final int WEEK = -4;
        private static final int OTHERS = -5;
        private static final int NEGATE = -6;
        private static final int TIMES = -7;
        private static final int PARTS = -8;
        private static final int PLUS = -9;
        private static final int MINUS = -10;
        private static final int LESS = -11;
        private static final int MORE = -12;
        private static final int SAME = -13;
        private static final int OPEN = -14;
        private static final int NOTHING = -15;
        private static final int DEEPEST = 4;
        private static final int[] USUAL = {HEDGE, 5, TIMES, MEN, 10, TIMES, PLUS};

        private final int[] steps = new int[RULE_SIGNS];
        private final int[] waiting = new int[RULE_SIGNS];
        private final int[] stack = new int[RULE_SIGNS];
        private final int[] things = new int[5];
        private int stepCount;
        private int waitCount;
        private int depth;
        private int compared;
        private boolean thingDue;

        Rule() {
            beUsual();
        }

        private void beUsual() {
            stepCount = 0;
            for (int i = 0; i < USUAL.length; i++) {
                addStep(USUAL[i]);
            }
        }

        /** The place of the first sign that can't stand there, or NONE. */
        int read(Text text) {
            stepCount = 0;
            waitCount = 0;
            depth = 0;
            compared = 0;
            thingDue = true;
            if (text.size() == 0) {
                beUsual();
                return NONE;
            }
            int limit = Math.min(text.size(), RULE_SIGNS);
            int p = 0;
            for (int turn = 0; turn < RULE_SIGNS && p < limit; turn++) {
                int taken = thingDue ? readThing(text, p, limit) : readAct(text.at(p));
                if (taken == 0) {
                    return p;
                }
                p += taken;
            }
            if (text.size() > RULE_SIGNS || thingDue || depth > 0) {
                return limit;
            }
            placeWaiting(rank(LESS));
            return NONE;
        }

        /** How many signs are of it; 0: none can stand there. */
        private int readThing(Text text, int p, int limit) {
            int digits = text.digits(p, 3, limit);
            if (digits > 0) {
                addStep(text.number(p, digits));
                thingDue = false;
                return digits;
            }
            int sign = text.at(p);
            if (sign == '-') {
                addWaiting(NEGATE);
                return 1;
            }
            if (sign == '(' && depth < DEEPEST) {
                addWaiting(OPEN);
                depth++;
                compared &= ~(1 << depth);
                return 1;
            }
            int thing = thingOf(sign);
            if (thing == NOTHING) {
                return 0;
            }
            addStep(thing);
            thingDue = false;
            return 1;
        }

        private int readAct(int sign) {
            if (sign == ')' && depth > 0) {
                placeWaiting(rank(LESS));
                waitCount = Math.max(0, waitCount - 1);
                depth--;
                return 1;
            }
            int act = actOf(sign);
            if (act == NOTHING) {
                return 0;
            }
            if (rank(act) == rank(LESS)) {
                if ((compared >> depth & 1) != 0) {
                    return 0;
                }
                compared |= 1 << depth;
            }
            placeWaiting(rank(act));
            addWaiting(act);
            thingDue = true;
            return 1;
        }

        private void addStep(int step) {
            if (stepCount >= 0 && stepCount < RULE_SIGNS) {
                steps[stepCount] = step;
                stepCount++;
            }
        }

        private void addWaiting(int act) {
            if (waitCount >= 0 && waitCount < RULE_SIGNS) {
                waiting[waitCount] = act;
                waitCount++;
            }
        }

        /** Acts that wait and bind as much or more have all they act upon: they come next. */
        private void placeWaiting(int leastRank) {
            while (waitCount > 0 && waitCount <= RULE_SIGNS && rank(waiting[waitCount - 1]) >= leastRank) {
                waitCount--;
                addStep(waiting[waitCount]);
            }
        }

        private static int thingOf(int sign) {
            switch (sign) {
                case 'h': return HEDGE;
                case 'g': return MEN;
                case 'l': return LOAD;
                case 'w': return WEEK;
                case 'n': return OTHERS;
                default: return NOTHING;
            }
        }

        private static int actOf(int sign) {
            switch (sign) {
                case '*': return TIMES;
                case '/': return PARTS;
                case '+': return PLUS;
                case '-': return MINUS;
                case '<': return LESS;
                case '>': return MORE;
                case '=': return SAME;
                default: return NOTHING;
            }
        }

        private static int rank(int act) {
            switch (act) {
                case NEGATE: return 4;
                case TIMES:
                case PARTS: return 3;
                case PLUS:
                case MINUS: return 2;
                case LESS:
                case MORE:
                case SAME: return 1;
                default: return 0;
            }
        }

        /** RISK; g men, l the load, n the other miles with men. */
        int risk(int h, int g, int l, int week, int n) {
            things[0] = h;
            things[1] = g;
            things[2] = l;
            things[3] = week & 7;
            things[4] = n;
            int top = 0;
            for (int i = 0; i < stepCount && i < RULE_SIGNS; i++) {
                int step = steps[i];
                if (step >= OTHERS) {
                    if (top >= RULE_SIGNS) {
                        return 0;
                    }
                    stack[top] = step >= 0 ? step : things[-1 - step];
                    top++;
                } else if (step == NEGATE && top >= 1) {
                    stack[top - 1] = -stack[top - 1];
                } else if (top >= 2) {
                    top--;
                    stack[top - 1] = apply(step, stack[top - 1], stack[top]);
                }
            }
            return within(stack[0], 999);
        }

        private static int apply(int act, int a, int b) {
            switch (act) {
                case TIMES: return a * b;
                case PARTS: return b == 0 ? 0 : a / b;
                case PLUS: return a + b;
                case MINUS: return a - b;
                case LESS: return a < b ? 1 : 0;
                case MORE: return a > b ? 1 : 0;
                default: return a == b ? 1 : 0;
            }
        }
    }

    /** Who crosses where, and the weeks of a land. */
    private static final class Crossing {
        private final Band band;
        private final Sky sky;
        private final int[] overMile = new int[MOST_MILES];
        private int least;
        private int went;
        private int everWent;
        private int quietWeeks;

        Crossing(Band band, Sky sky) {
            this.band = band;
            this.sky = sky;
        }

        /** DANGER, or CANNOT. */
        int dangerOf(Rule rule, Land land, int carrier, int mile) {
            int kind = band.kindOf(carrier);
            if (kind == EARTH) {
                return 2 * land.allMen();
            }
            if (land.hasGate(mile) != (kind == BREAD)) {
                return CANNOT;
            }
            int hedge = land.hedgeAt(mile);
            if (kind == CAMELS) {
                hedge /= 2;
            } else if (kind == FLOOD) {
                if (sky.of(land.week()) != 'r') {
                    return CANNOT;
                }
                hedge = 0;
            }
            int risk = rule.risk(hedge, land.menAt(mile), band.loadOf(carrier), land.week(), land.mannedBeside(mile));
            return kind == BREAD ? risk / 2 : risk;
        }

        /** The mile with the least danger, which least() then tells, or NONE. */
        int safest(Rule rule, Land land, int carrier) {
            int best = NONE;
            least = NONE;
            for (int m = 0; m < land.miles() && least != 0; m++) {
                int danger = dangerOf(rule, land, carrier, m);
                if (danger != CANNOT && (best == NONE || danger < least)) {
                    best = m;
                    least = danger;
                }
            }
            return best;
        }

        int least() {
            return least;
        }

        int gain(Land land, int carrier) {
            return band.loadOf(carrier) * (land.dear() - land.cheap());
        }

        /** The mile to which it would go, or NONE. */
        int goal(Rule rule, Land land, int carrier) {
            int mile = safest(rule, land, carrier);
            return mile != NONE && gain(land, carrier) > least ? mile : NONE;
        }

        /** The loads of a week's carriers, but for those (bits) who were paid to stay. */
        int cross(Rule rule, Land land, int paid) {
            Arrays.fill(overMile, 0);
            went = 0;
            int loads = 0;
            for (int c = 0; c < band.size(); c++) {
                if ((paid >> c & 1) != 0) {
                    continue;
                }
                int mile = safest(rule, land, c);
                if (mile == NONE || gain(land, c) <= least) {
                    continue;
                }
                went |= 1 << c;
                loads += band.loadOf(c);
                if (band.kindOf(c) != EARTH && mile >= 0 && mile < MOST_MILES) {
                    overMile[mile] += band.loadOf(c);
                }
                if (band.kindOf(c) == CAMELS) {
                    land.setHedge(mile, land.hedgeAt(mile) - 2);
                }
            }
            return loads;
        }

        int went() {
            return went;
        }

        /** The mile over which the most came in the latest cross(), or NONE. */
        int busiest() {
            int best = NONE;
            int most = 0;
            for (int m = 0; m < MOST_MILES; m++) {
                if (overMile[m] > most) {
                    most = overMile[m];
                    best = m;
                }
            }
            return best;
        }

        int pass(Rule rule, Land land, int n) {
            everWent = 0;
            quietWeeks = 0;
            int sum = 0;
            for (int i = 0; i < n; i++) {
                int loads = cross(rule, land, 0);
                everWent |= went;
                if (loads == 0) {
                    quietWeeks++;
                }
                sum += loads;
                land.comeOver(loads);
                land.endWeek(sky.of(land.week()));
            }
            return sum;
        }

        int everWent() {
            return everWent;
        }

        int quietWeeks() {
            return quietWeeks;
        }
    }

    /** What was heard of a carrier. */
    private static final class Rumours {
        private static final int MOST = 12;
        private final int[] whats = new int[MOST];
        private final int[] values = new int[MOST];
        private int size;

        int size() {
            return size;
        }

        void clear() {
            size = 0;
        }

        boolean hear(int what, int v) {
            boolean known = what == 0 && v >= 0 && v <= 4
                || what == 1 && v >= 1 && v <= 9
                || what == 2 && v >= 0 && v <= 1;
            if (!known || size < 0 || size >= MOST) {
                return false;
            }
            whats[size] = what;
            values[size] = v;
            size++;
            return true;
        }

        boolean allow(int kind, int load, boolean goesNow) {
            for (int i = 0; i < size && i < MOST; i++) {
                int v = values[i];
                boolean fits = whats[i] == 0 ? kind == v
                    : whats[i] == 1 ? load >= v
                    : goesNow == (v == 1);
                if (!fits) {
                    return false;
                }
            }
            return true;
        }
    }
}
