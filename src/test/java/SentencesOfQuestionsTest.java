import java.math.BigInteger;

/**
 * Promises 21 to 46, sentence by sentence. Where a question is about what would come, what it answers
 * is also held against acts that do it on other objects made alike.
 */
public final class SentencesOfQuestionsTest {
    private static final Sentences s = new Sentences("SentencesOfQuestionsTest");
    private static final Twins.Maker[] MAKERS = {ThornHedge::new, Twins::some, Twins::full};

    public static void main(String[] args) {
        s.run(() -> goes(), () -> ahead(), () -> holds(), () -> keeps(), () -> tax(), () -> without(), () -> beats(),
            () -> thorns(), () -> walls(), () -> posts(), () -> rounds(), () -> reward(), () -> pays(), () -> caught(),
            () -> lasts(), () -> heard(), () -> forget(), () -> fits(), () -> ask(), () -> law(), () -> rests(),
            () -> years(), () -> keep(), () -> again(), () -> count(), () -> row());
        s.end();
    }

    /** Lands of all sorts; of each as many as wanted can be made alike. */
    private static final String[][] LANDS = {
        {"0", "01", "f", ""}, {"52G", "03;14;22;35;46", "frda", "h*5+g*10"}, {"3333", "11;01;12;02;19", "dr", "h*5+g*3"}, {"G9G", "35;39;01;21", "rf", "h*9+w"},
        {"G1G2", "31;11;02;13;04;41;22;33", "fra", "h*7+g*9-n*3"}, {"99", "09;19;29;49", "d", ""}, {"GGG", "01;12;31;49", "r", "l*2+w"}, {"123", "01;01;01", "a", "(h>1)*12+g*6"},
        {"573", "01;12;03;14;25", "dfr", "h*3+w"}, {"9G6G4", "05;16;07;31;42", "rd", "60-h*5"}, {"808", "03;13;23;33;43", "fa", "(w<4)*30+n*9"}, {"4646", "02;14;01", "frd", "l*9-w*2+h"}};

    private static ThornHedge land(int which) {
        return land(which, LANDS[which][1]);
    }

    private static ThornHedge land(int which, String band) {
        ThornHedge x = Checks.made(LANDS[which][0], "");
        Checks.text(x, LANDS[which][2]).weather();
        Checks.text(x, LANDS[which][3]).rule();
        Checks.text(x, "10,8;5,30;3,99;7,0;20,17").mouths();
        if (which % 2 == 1) {
            x.price(0, 3);
            x.guard(x.count(0) - 1, which);
            x.guard(0, 1);
        }
        if (which % 3 == 2) x.weeks(which);
        if (which >= 8) x.price(1, 9 + which);
        // behind the WEEKS, so that whoever is there the land is the same
        Checks.text(x, band).carriers();
        return x;
    }

    private static void refusals(String what, int from, int to, Twins.AskedWith asked) {
        for (int v : Twins.outside(from, to)) for (Twins.Maker maker : MAKERS) s.refused(what + " " + v, maker, x -> asked.of(x, v), ThornHedge.NONE);
    }

    private static int loadsNow(ThornHedge x) {
        x.goes();
        return (int) x.row(0);
    }

    // ---- what comes over

    private static void goes() {
        s.promise(21, "goes");
        s.says("CARRIERS (bits) that GO in this WEEK, one behind the other as told");
        s.is("of five", Checks.made("52G", "03;14;22;35;46").goes(), 27);
        // baskets 15 against 15, camels eat 2, baskets 15 against 5
        s.is("one behind the other", Checks.made("3", "01;11;01").goes(), 6);
        s.is("nobody is there", new ThornHedge().goes(), 0);
        for (int i = 0; i < LANDS.length; i++) {
            ThornHedge passed = land(i);
            passed.weeks(1);
            s.is("as in a WEEK, land " + i, land(i).goes(), passed.row(0));
        }
        s.says("the ROW: their LOADS together");
        for (int i = 0; i < LANDS.length; i++) s.is("land " + i, loadsNow(land(i)), land(i).weeks(1));
        s.says("the MILE over which the most loads come (of equal ones the first; KIND 4 aside; NONE)");
        busiest("the most", "0G", "36;05", 11, 1);
        busiest("of some together", "0G", "02;33;02", 7, 0);
        busiest("of equal ones the first", "0G", "35;05", 10, 0);
        busiest("of equal ones the first, whoever comes first", "G0", "05;35", 10, 0);
        busiest("KIND 4 aside", "9G", "31;49", 10, 1);
        busiest("KIND 4 alone", "9", "49", 9, -1);
        busiest("nobody", "9", "01", 0, -1);
        ThornHedge x = Checks.made("0G", "04;31;04");
        x.goes();
        s.row("baskets", x, 9, 0);
        x.guard(0, 9);
        x.goes();
        s.row("bread alone, whatever was asked before", x, 1, 1);
    }

    private static void busiest(String what, String line, String band, int loads, int mile) {
        ThornHedge x = Checks.made(line, band);
        x.goes();
        s.row(what, x, loads, mile);
    }

    private static void ahead() {
        s.promise(22, "ahead");
        s.says("Loads that come over in n WEEKS (0 .. 99)");
        for (int i = 0; i < LANDS.length; i++) {
            for (int n : new int[] {0, 1, 2, 7, 60, 61, 99}) {
                ThornHedge passed = land(i);
                int loads = passed.weeks(Math.min(60, n)) + passed.weeks(Math.max(0, n - 60));
                ThornHedge x = land(i);
                s.is("land " + i + ", " + n + " WEEKS", x.ahead(n), loads);
            }
        }
        ThornHedge later = Checks.made("0", "01");
        later.weeks(5);
        s.is("in these WEEKS alone", later.ahead(3), 3);
        s.says("the ROW: HEDGES together then");
        for (int i = 0; i < LANDS.length; i++) {
            for (int n : new int[] {0, 1, 9}) {
                ThornHedge passed = land(i), x = land(i);
                passed.weeks(n);
                x.ahead(n);
                s.is("land " + i + ", " + n + " WEEKS", x.row(0), passed.count(9));
            }
        }
        s.says("how many of these WEEKS nothing came");
        for (int i = 0; i < LANDS.length; i++) {
            ThornHedge passed = land(i), x = land(i);
            int quiet = 0;
            for (int n = 0; n <= 99; n++) {
                x.ahead(n);
                s.is("land " + i + ", of " + n, x.row(1), quiet);
                if (passed.weeks(1) == 0) quiet++;
            }
        }
        ThornHedge dry = Checks.made("9", "01");
        Checks.text(dry, "d").weather();
        dry.ahead(99);
        s.row("till HEDGE is 2", dry, 0, 7);
        s.says("NONE: another n");
        refusals("ahead", 0, 99, (x, n) -> x.ahead(n));
    }

    private static void holds() {
        s.promise(23, "holds");
        s.says("In how many WEEKS (0: this one .. 98) something comes over first: it");
        s.is("this one", Checks.made("0", "01").holds(), 0);
        ThornHedge dry = Checks.made("9", "01");
        Checks.text(dry, "d").weather();
        s.is("HEDGE 2 in seven", dry.holds(), 7);
        for (int i = 0; i < LANDS.length; i++) {
            ThornHedge passed = land(i);
            passed.price(1, 6);
            int first = 0;
            while (first < 99 && passed.weeks(1) == 0) first++;
            ThornHedge x = land(i);
            x.price(1, 6);
            s.is("land " + i, x.holds(), first == 99 ? -2 : first);
        }
        s.is("98", eatenIn(97).holds(), 98);
        s.says("the ROW: CARRIERS (bits) that go in it");
        ThornHedge three = Checks.made("9", "01;41;09;29");
        three.holds();
        s.row("two of four", three, 6);
        dry.holds();
        s.row("in seven WEEKS", dry, 1);
        ThornHedge rain = Checks.made("99", "01;29;01;21");
        Checks.text(rain, "fffr").weather();
        s.is("by rain", rain.holds(), 3);
        s.row("by rain", rain, 10);
        s.says("-2: not in 99");
        s.is("in the hundredth", eatenIn(98).holds(), -2);
        s.is("nobody", new ThornHedge().holds(), -2);
        s.is("never", Checks.made("9", "01").holds(), -2);
    }

    /** Ants eat the one MILE without MEN in this WEEK alone (of 209); baskets come in the next. */
    private static ThornHedge eatenIn(int week) {
        ThornHedge x = Checks.made("99999999999", "01");
        for (int m = 0; m < 11; m++) if (m != week % 11) x.guard(m, 9);
        Checks.text(x, Checks.times("f", week % 19) + "a" + Checks.times("f", 18 - week % 19)).weather();
        return x;
    }

    private static void keeps() {
        s.promise(24, "keeps");
        s.says("The greatest DEAR (0 .. 99) at which nothing comes over in this WEEK: it");
        for (int i = 0; i < LANDS.length; i++) {
            for (int cheap : new int[] {0, 5, 40, 99}) {
                ThornHedge x = land(i), tried = land(i);
                x.price(0, cheap);
                tried.price(0, cheap);
                int due = 99;
                for (int dear = 99; dear >= 0; dear--) {
                    tried.price(1, dear);
                    if (tried.goes() == 0) {
                        due = dear;
                        break;
                    }
                }
                s.is("land " + i + ", CHEAP " + cheap, x.keeps(), due);
                s.is("land " + i + ", DEAR stays", x.count(4), land(i).count(4));
            }
        }
        s.is("10 by 3, 5 by 4: the least", Checks.made("52G", "03;14").keeps(), 6);
        s.is("the other way round", Checks.made("52G", "14;03").keeps(), 6);
        s.is("nobody", new ThornHedge().keeps(), 99);
        s.says("0 at least: at 0 nothing does");
        ThornHedge x = Checks.made("0", "09;49");
        x.price(0, 0);
        s.is("without DANGER", x.keeps(), 0);
        x.price(1, 0);
        s.is("at 0", x.goes(), 0);
    }

    private static long[] bestTax(ThornHedge x) {
        long[] best = {-1, -1, -1};
        for (int dear = 0; dear <= 99; dear++) {
            x.price(1, dear);
            int loads = loadsNow(x), buy = 0, poor = 0;
            for (int sort = 0; sort < x.count(2); sort++) {
                if (x.mouth(sort, 1) >= dear) buy += x.mouth(sort, 0);
                else poor += x.mouth(sort, 0);
            }
            long taken = (long) Math.max(0, dear - x.count(3)) * Math.max(0, buy - loads);
            if (taken > best[1]) best = new long[] {dear, taken, poor};
        }
        return best;
    }

    private static void tax() {
        s.promise(25, "tax");
        s.says("The DEAR (0 .. 99) at which the most is taken in: as often what DEAR is more than CHEAP (0 at least) as there are PEOPLE whose PURSE is DEAR or more");
        for (int i = 0; i < LANDS.length; i++) {
            for (int cheap : new int[] {0, 5, 16, 98, 99}) {
                ThornHedge x = land(i), tried = land(i);
                x.price(0, cheap);
                tried.price(0, cheap);
                s.is("land " + i + ", CHEAP " + cheap, x.tax(), bestTax(tried)[0]);
                s.is("land " + i + ", DEAR stays", x.count(4), land(i).count(4));
            }
        }
        taxed("just their PURSE", "0", "", "1,30", 5, 30, 25, 0);
        taxed("nothing is more than CHEAP", "0", "", "9,30", 50, 0, 0, 0);
        s.says("less loads that come over in this WEEK (0 at least)");
        taxed("of ten, less nine", "0", "09", "10,99", 5, 99, 94, 0);
        taxed("of nine, less nine", "0", "09", "9,99", 5, 0, 0, 0);
        taxed("of eight, less nine", "0", "09", "8,99", 5, 0, 0, 0);
        // 15 is the greatest DEAR at which nothing comes over
        taxed("at that DEAR, not at the present one", "2", "01", "2,16;1,15", 5, 15, 30, 0);
        s.says("it, of equal ones the least");
        taxed("2 by 2, 4 by 1", "0", "", "1,7;1,9", 5, 7, 4, 0);
        taxed("nothing at any", "0", "", "", 5, 0, 0, 0);
        s.says("the ROW: how much");
        for (int i = 0; i < LANDS.length; i++) {
            ThornHedge x = land(i);
            x.tax();
            s.is("land " + i, x.row(0), bestTax(land(i))[1]);
        }
        s.says("how many PEOPLE go without (their PURSE is less)");
        for (int i = 0; i < LANDS.length; i++) {
            ThornHedge x = land(i);
            x.tax();
            s.is("land " + i, x.row(1), bestTax(land(i))[2]);
        }
        taxed("one of two", "0", "", "1,7;1,30", 5, 30, 25, 1);
    }

    private static void taxed(String what, String line, String band, String town, int cheap, int... due) {
        ThornHedge x = Checks.made(line, band);
        Checks.text(x, town).mouths();
        x.price(0, cheap);
        s.is(what, x.tax(), due[0]);
        s.row(what, x, due[1], due[2]);
    }

    private static void without() {
        s.promise(26, "without");
        ThornHedge x = Checks.text(new ThornHedge(), "10,8;5,30;3,99;7,0");
        x.mouths();
        int[][] due = {{0, 0, 0, 0}, {1, 7, 8, 0}, {8, 7, 8, 0}, {9, 17, 9, 8}, {30, 17, 9, 8}, {31, 22, 11, 8}, {99, 22, 11, 8}};
        s.says("PEOPLE who go without at a price v (0 .. 99): how many");
        for (int[] d : due) s.is("at " + d[0], x.without(d[0]), d[1]);
        s.says("the ROW: sorts (bits)");
        for (int[] d : due) {
            x.without(d[0]);
            s.is("at " + d[0], x.row(0), d[2]);
        }
        s.says("the greatest price (0 .. v) at which no more than half of these (cut) go without");
        for (int[] d : due) {
            x.without(d[0]);
            s.row("at " + d[0], x, d[2], d[3]);
        }
        ThornHedge nobody = new ThornHedge();
        nobody.without(77);
        s.row("none at v itself", nobody, 0, 77);
        int[][] halves = {{1, 1, 9}, {2, 1, 5}, {1, 2, 9}, {2, 3, 9}, {3, 2, 5}, {3, 3, 9}};
        for (int[] h : halves) {
            ThornHedge two = Checks.text(new ThornHedge(), h[0] + ",5;" + h[1] + ",9");
            two.mouths();
            two.without(50);
            s.row(h[0] + " of " + (h[0] + h[1]), two, 3, h[2]);
        }
        s.says("NONE: another v");
        refusals("without", 0, 99, (y, v) -> y.without(v));
    }

    // ---- guards, thorns

    /** Loads for this row of MEN, all others gone. */
    private static int guarded(ThornHedge x, int[] men) {
        for (int m = 0; m < men.length; m++) x.guard(m, men[m]);
        return loadsNow(x);
    }

    private static int leastOf(ThornHedge x, int[] men, int from, int left, int[] best, int least) {
        if (from == men.length - 1) {
            men[from] = left;
            int loads = guarded(x, men);
            if (loads >= least) return least;
            System.arraycopy(men, 0, best, 0, men.length);
            return loads;
        }
        for (int n = 0; n <= left; n++) {
            men[from] = n;
            least = leastOf(x, men, from + 1, left - n, best, least);
        }
        return least;
    }

    private static void beats() {
        s.promise(27, "beats");
        s.says("Where just k MEN (0 .. 4; all others gone) are to be, so that the least comes over in this WEEK: loads");
        for (int i = 0; i < LANDS.length; i++) for (int k = 0; k <= 4; k++) triedBeats(i, k, false);
        ThornHedge guarded = Checks.made("00", "01");
        guarded.guard(0, 9);
        guarded.guard(1, 9);
        s.is("those who are there are gone", guarded.beats(0), 1);
        s.is("four are enough", guarded.beats(4), 0);
        s.is("three are not", guarded.beats(3), 1);
        s.says("the ROW: MEN by MILES: of as good ones the least row");
        for (int i = 0; i < LANDS.length; i++) for (int k = 0; k <= 4; k++) triedBeats(i, k, true);
        guarded.beats(4);
        s.row("by MILES", guarded, 2, 2);
        guarded.beats(3);
        s.row("the least row", guarded, 0, 3);
        s.says("NONE: another k");
        refusals("beats", 0, 4, (x, k) -> x.beats(k));
    }

    private static void triedBeats(int which, int k, boolean row) {
        ThornHedge x = land(which), tried = land(which);
        int miles = x.count(0);
        int[] best = new int[miles];
        int loads = leastOf(tried, new int[miles], 0, k, best, Integer.MAX_VALUE);
        long answer = x.beats(k);
        String what = "land " + which + ", " + k + " MEN";
        if (!row) s.is(what, answer, loads);
        long[] due = new long[miles];
        for (int m = 0; m < miles; m++) due[m] = best[m];
        if (row) s.row(what, x, due);
    }

    private static void thorns() {
        s.promise(28, "thorns");
        s.says("The MILE (no GATE) where HEDGE made 9 helps the most: the one by which the least comes over in n WEEKS (1 .. 20)");
        for (int i = 0; i < LANDS.length; i++) {
            for (int n : new int[] {1, 3, 10, 20}) {
                int best = -2, least = Integer.MAX_VALUE;
                for (int m = 0; m < land(i).count(0); m++) {
                    ThornHedge planted = land(i);
                    if (planted.plant(m, 9) < 0) continue;
                    int loads = planted.weeks(n);
                    if (loads < least) {
                        least = loads;
                        best = m;
                    }
                }
                ThornHedge x = land(i);
                s.is("land " + i + ", " + n + " WEEKS", x.thorns(n), best);
                if (best >= 0) s.row("land " + i + ", " + n + " WEEKS", x, least, land(i).weeks(n));
            }
        }
        s.is("the open one", Checks.made("G990", "01").thorns(5), 3);
        s.is("the open one between others", Checks.made("505", "01").thorns(5), 1);
        s.says("of equal ones the first: it");
        s.is("all alike", Checks.made("G000", "01").thorns(5), 1);
        s.is("nobody", Checks.made("GG00", "").thorns(1), 2);
        s.says("the ROW: loads then, loads as it is");
        ThornHedge x = Checks.made("G990", "01;31");
        Checks.text(x, "d").weather();
        x.thorns(10);
        // 45 against 15 till seven dry WEEKS have brought it to 2; bread each WEEK
        s.row("in dry WEEKS", x, 13, 20);
        s.says("-2: there are GATES alone");
        for (int n : new int[] {1, 20}) s.is("of " + n, Checks.made("GGG", "31").thorns(n), -2);
        s.says("NONE: another n");
        refusals("thorns", 1, 20, (y, n) -> y.thorns(n));
        s.is("GATES alone, another n", Checks.made("G", "31").thorns(0), -1);
    }

    private static void walls() {
        s.promise(29, "walls");
        s.says("The fewest MILES to be made GATES more (as gate()), so that no CARRIER of KIND 0, 1 or 2 GOES in this WEEK: how many");
        for (int i = 0; i < LANDS.length; i++) s.is("land " + i, land(i).walls(), Integer.bitCount(wallsOf(i)));
        s.is("all of them", Checks.made("0G0", "01").walls(), 2);
        for (int kind = 0; kind <= 4; kind++) {
            ThornHedge x = Checks.made("0G", kind + "9");
            Checks.text(x, "r").weather();
            s.is("KIND " + kind, x.walls(), kind <= 2 ? 1 : 0);
        }
        s.is("flood without rain", Checks.made("0", "29").walls(), 0);
        s.is("just where it is worth it", Checks.made("32", "01").walls(), 1);
        ThornHedge priced = Checks.made("32", "01");
        priced.price(1, 21);
        s.is("as DEAR is now", priced.walls(), 2);
        priced.price(1, 15);
        s.is("as DEAR is now, nowhere", priced.walls(), 0);
        s.says("the ROW: they (bits: of as few the least)");
        for (int i = 0; i < LANDS.length; i++) {
            ThornHedge x = land(i);
            x.walls();
            s.row("land " + i, x, wallsOf(i));
        }
        ThornHedge y = Checks.made("32G1", "01");
        y.walls();
        s.row("miles 1 and 3", y, 10);
    }

    /** Tries all sets of MILES that are no GATES yet. */
    private static int wallsOf(int which) {
        int miles = land(which).count(0), gates = land(which).count(8), best = -1;
        for (int bits = 0; bits < 1 << miles; bits++) {
            if ((bits & gates) != 0 || best >= 0 && Integer.bitCount(bits) >= Integer.bitCount(best)) continue;
            ThornHedge x = land(which);
            for (int m = 0; m < miles; m++) if ((bits >> m & 1) != 0) x.gate(m);
            int went = x.goes();
            boolean kept = true;
            for (int c = 0; c < x.count(1); c++) if ((went >> c & 1) != 0 && x.carrier(c, 0) <= 2) kept = false;
            if (kept) best = bits;
        }
        return best;
    }

    private static void posts() {
        s.promise(30, "posts");
        s.says("The fewest MILES at which men must stand so that each MILE is no farther than r (0 .. 11) from one: how many");
        for (int miles = 1; miles <= 12; miles++) {
            ThornHedge x = Checks.made(Checks.times("0", miles), "");
            for (int r = 0; r <= 11; r++) s.is(miles + " MILES, r " + r, x.posts(r), Integer.bitCount(postsOf(miles, r)));
        }
        s.says("the ROW: they (bits: of as few the least)");
        for (int miles = 1; miles <= 12; miles++) {
            ThornHedge x = Checks.made(Checks.times("0", miles), "");
            for (int r = 0; r <= 11; r++) {
                x.posts(r);
                s.row(miles + " MILES, r " + r, x, postsOf(miles, r));
            }
        }
        s.says("NONE: another r");
        refusals("posts", 0, 11, (x, r) -> x.posts(r));
    }

    private static int postsOf(int miles, int r) {
        int best = -1;
        for (int bits = 1; bits < 1 << miles; bits++) {
            boolean near = true;
            for (int m = 0; m < miles; m++) {
                boolean one = false;
                for (int post = 0; post < miles; post++) one |= (bits >> post & 1) != 0 && Math.abs(post - m) <= r;
                near &= one;
            }
            if (near && (best < 0 || Integer.bitCount(bits) < Integer.bitCount(best))) best = bits;
        }
        return best;
    }

    private static void rounds() {
        s.promise(31, "rounds");
        s.says("n men (1 .. 9) go to and fro along the MILES, from MILE 0, 2, 4, .. (by how many MILES there are, rest) at WEEK 0");
        for (int miles = 1; miles <= 12; miles++) {
            ThornHedge x = Checks.made(Checks.times("0", miles), "");
            for (int n = 1; n <= 9; n++) {
                int free = (1 << miles) - 1;
                for (int man = 0; man < n; man++) free &= ~(1 << 2 * man % miles);
                s.is(n + " men, " + miles + " MILES", x.rounds(n, 0), free);
            }
        }
        s.says("a MILE a WEEK, upwards at first, turning at the ends (a line of one MILE: they stay)");
        int[] at = {0, 1, 2, 3, 2, 1, 0, 1, 2, 3, 2};
        for (int k = 0; k < at.length; k++) s.is("one man, four MILES, WEEK " + k, Checks.made("0000", "").rounds(1, k), 15 & ~(1 << at[k]));
        // the third of three men begins at MILE 4, the last of five, and turns there
        int[][] three = {{0, 2, 4}, {1, 3, 3}, {2, 4, 2}, {3, 3, 1}, {4, 2, 0}, {3, 1, 1}, {2, 0, 2}, {1, 1, 3}, {0, 2, 4}};
        for (int k = 0; k < three.length; k++) s.is("three men, five MILES, WEEK " + k, Checks.made("00000", "").rounds(3, k), 31 & ~(1 << three[k][0] | 1 << three[k][1] | 1 << three[k][2]));
        for (int k = 0; k <= 60; k++) s.is("one MILE, WEEK " + k, new ThornHedge().rounds(1, k), 0);
        s.says("MILES (bits) at which none is in WEEK k (0 .. 60): bits");
        s.is("WEEK 60, four MILES", Checks.made("0000", "").rounds(1, 60), 14);
        s.is("WEEK 59, four MILES", Checks.made("0000", "").rounds(1, 59), 13);
        s.is("WEEK 60, twelve MILES", Checks.made(Checks.times("0", 12), "").rounds(1, 60), 4095 & ~(1 << 6));
        s.is("whatever WEEK is", Twins.some().rounds(1, 0), 14);
        s.says("the ROW: how many");
        for (int n = 1; n <= 9; n++) {
            ThornHedge x = Checks.made(Checks.times("0", 12), "");
            int bits = x.rounds(n, 5);
            s.row(n + " men", x, Integer.bitCount(bits));
        }
        s.says("NONE: others");
        refusals("rounds(n, 5)", 1, 9, (x, n) -> x.rounds(n, 5));
        refusals("rounds(5, k)", 0, 60, (x, k) -> x.rounds(5, k));
    }

    // ---- rewards, chances

    private static void reward() {
        s.promise(32, "reward");
        s.says("The least reward (0 .. 999), paid to a CARRIER that does not GO, by which it does not, in this WEEK as all is now: LOAD times what DEAR is more than CHEAP is no more than DANGER and the reward: how much");
        for (int i = 0; i < LANDS.length; i++) {
            for (int dear : new int[] {0, 6, 20, 99}) {
                ThornHedge x = land(i);
                x.price(1, dear);
                for (int c = 0; c < x.count(1); c++) {
                    int least = x.carrier(c, 3), due = 0;
                    while (least >= 0 && x.carrier(c, 1) * (dear - x.count(3)) > least + due) due++;
                    s.is("land " + i + ", DEAR " + dear + ", CARRIER " + c, x.reward(c), due);
                }
            }
        }
        // camels would eat 2 ahead of it: that is not so now
        s.is("as all is now", Checks.made("3", "19;01").reward(1), 0);
        s.says("0: it does not GO anyhow");
        s.is("15 against 45", Checks.made("9", "01").reward(0), 0);
        s.is("no MILE where it can", Checks.made("G", "09").reward(0), 0);
        s.says("NONE: none such");
        for (int c : new int[] {-1, 8, Integer.MIN_VALUE, Integer.MAX_VALUE}) for (Twins.Maker maker : MAKERS) s.refused("reward(" + c + ")", maker, x -> x.reward(c), -1);
        for (int c = 5; c < 8; c++) {
            int at = c;
            s.refused("behind the last, " + c, Twins::some, x -> x.reward(at), -1);
        }
    }

    /** The land without those CARRIERS who were paid: they do not GO, and change nothing. */
    private static int unpaid(int which, int bits) {
        StringBuilder band = new StringBuilder();
        String[] all = LANDS[which][1].split(";");
        for (int c = 0; c < all.length; c++) if ((bits >> c & 1) == 0) band.append(band.length() == 0 ? "" : ";").append(all[c]);
        return loadsNow(land(which, band.toString()));
    }

    private static void pays() {
        s.promise(33, "pays");
        s.says("Of v coins (0 .. 999) some CARRIERS are paid just their reward() (those paid do not GO, whatever comes), so that the least comes over in this WEEK: loads that come over yet");
        for (int i = 0; i < LANDS.length; i++) triedPays(i, 0);
        s.is("15 coins are just enough", Checks.made("0", "01").pays(15), 0);
        s.is("14 are not", Checks.made("0", "01").pays(14), 1);
        s.is("paid nothing, whatever camels eat", Checks.made("3", "11;01").pays(0), 1);
        s.says("the ROW: whom it is paid to (bits: of as good ones those with the fewest coins, then the least)");
        for (int i = 0; i < LANDS.length; i++) triedPays(i, 1);
        ThornHedge even = Checks.made("00", "01;01");
        even.pays(29);
        s.row("either: the least", even, 1, 15);
        ThornHedge fewest = Checks.made("0G", "32;02");
        Checks.text(fewest, "8").rule();
        // bread: 30 less 4, baskets: 30 less 8
        fewest.pays(26);
        s.row("either: the fewest coins", fewest, 2, 22);
        s.says("coins paid");
        for (int i = 0; i < LANDS.length; i++) triedPays(i, 2);
        s.says("NONE: another v");
        refusals("pays", 0, 999, (x, v) -> x.pays(v));
    }

    /** What 0: loads, 1: whom, 2: coins. */
    private static void triedPays(int which, int what) {
        ThornHedge x = land(which);
        int all = 1 << x.count(1);
        int[] loads = new int[all], coins = new int[all];
        for (int bits = 0; bits < all; bits++) {
            loads[bits] = unpaid(which, bits);
            for (int c = 0; c < x.count(1); c++) if ((bits >> c & 1) != 0) coins[bits] += x.reward(c);
        }
        for (int v : new int[] {0, 1, 15, 30, 47, 90, 200, 999}) {
            int best = -1;
            for (int bits = 0; bits < all; bits++) {
                if (coins[bits] > v) continue;
                if (best < 0 || loads[bits] < loads[best] || loads[bits] == loads[best] && coins[bits] < coins[best]) best = bits;
            }
            long answer = x.pays(v);
            s.is("land " + which + ", " + v + " coins", what == 0 ? answer : x.row(what - 1), what == 0 ? loads[best] : what == 1 ? best : coins[best]);
        }
    }

    private static void caught() {
        s.promise(34, "caught");
        s.says("n carriers (1 .. 10) cross, each caught by p tenths (0 .. 10): how likely k (0 .. 10) or more are: 0; the ROW: the fraction");
        ThornHedge x = new ThornHedge();
        for (int n = 1; n <= 10; n++) {
            for (int p = 0; p <= 10; p++) {
                BigInteger[] just = justCaught(n, p);
                BigInteger more = BigInteger.ZERO, lower = BigInteger.TEN.pow(n);
                for (int k = 10; k >= 0; k--) {
                    if (k <= n) more = more.add(just[k]);
                    BigInteger shared = more.gcd(lower);
                    s.is("caught(" + n + ", " + k + ", " + p + ")", x.caught(n, k, p), 0);
                    s.row("caught(" + n + ", " + k + ", " + p + ")", x, more.divide(shared).longValueExact(), lower.divide(shared).longValueExact());
                }
            }
        }
        s.says("NONE: others");
        refusals("caught(n, 1, 1)", 1, 10, (y, n) -> y.caught(n, 1, 1));
        refusals("caught(1, k, 1)", 0, 10, (y, k) -> y.caught(1, k, 1));
        refusals("caught(1, 1, p)", 0, 10, (y, p) -> y.caught(1, 1, p));
    }

    /** Of 10^n cases those in which just k are caught, one carrier behind the other. */
    private static BigInteger[] justCaught(int n, int p) {
        BigInteger[] cases = new BigInteger[n + 1];
        java.util.Arrays.fill(cases, BigInteger.ZERO);
        cases[0] = BigInteger.ONE;
        for (int i = 0; i < n; i++) {
            for (int k = n; k >= 0; k--) {
                BigInteger free = cases[k].multiply(BigInteger.valueOf(10 - p));
                cases[k] = k == 0 ? free : free.add(cases[k - 1].multiply(BigInteger.valueOf(p)));
            }
        }
        return cases;
    }

    private static void lasts() {
        s.promise(35, "lasts");
        s.says("Each WEEK one is caught by p tenths (0 .. 10), and has to stop then: how many WEEKS (0 .. 12) he goes on at least by v (0 .. 100) in 100 or more: the most such number");
        ThornHedge x = new ThornHedge();
        for (int p = 0; p <= 10; p++) {
            for (int v = 0; v <= 100; v++) {
                int most = 0;
                for (int n = 1; n <= 12; n++) {
                    BigInteger goesOn = BigInteger.valueOf(10 - p).pow(n).multiply(BigInteger.valueOf(100));
                    if (goesOn.compareTo(BigInteger.TEN.pow(n).multiply(BigInteger.valueOf(v))) >= 0) most = n;
                }
                s.is("lasts(" + p + ", " + v + ")", x.lasts(p, v), most);
            }
        }
        s.says("NONE: others");
        refusals("lasts(p, 1)", 0, 10, (y, p) -> y.lasts(p, 1));
        refusals("lasts(1, v)", 0, 100, (y, v) -> y.lasts(1, v));
    }

    // ---- which it was, laws

    /** CARRIERS 1, 3 and 4 would GO. */
    private static ThornHedge suspects() {
        ThornHedge x = Checks.made("52G", "03;14;22;35;46");
        x.guard(1, 4);
        x.guard(0, 9);
        return x;
    }

    private static int fitting(int... heard) {
        ThornHedge x = suspects();
        for (int i = 0; i + 1 < heard.length; i += 2) x.heard(heard[i], heard[i + 1]);
        return x.fits();
    }

    private static void heard() {
        s.promise(36, "heard");
        s.says("It was heard of a CARRIER that, what 0: KIND is v (0 .. 4)");
        for (int v = 0; v <= 4; v++) s.is("KIND " + v, fitting(0, v), 1 << v);
        s.says("1: LOAD is v (1 .. 9) or more");
        int[] loads = {31, 31, 27, 26, 24, 16, 0, 0, 0};
        for (int v = 1; v <= 9; v++) s.is("LOAD " + v, fitting(1, v), loads[v - 1]);
        s.says("2: it would GO now (v 1) or not (0)");
        s.is("it would", fitting(2, 1), 26);
        s.is("it would not", fitting(2, 0), 5);
        ThornHedge later = suspects();
        later.heard(2, 1);
        later.price(1, 0);
        s.is("now, not when it was heard", later.fits(), 0);
        s.says("how many such");
        ThornHedge x = new ThornHedge();
        int[][] all = {{0, 0}, {0, 4}, {1, 1}, {1, 9}, {2, 0}, {2, 1}, {0, 0}};
        for (int i = 0; i < all.length; i++) s.is("heard, " + i, x.heard(all[i][0], all[i][1]), i + 1);
        s.is("count(11)", x.count(11), 7);
        s.says("Refused: others, 12");
        for (int v : Twins.outside(0, 4)) s.refused("KIND " + v, Twins::some, y -> y.heard(0, v), -1);
        for (int v : Twins.outside(1, 9)) s.refused("LOAD " + v, Twins::some, y -> y.heard(1, v), -1);
        for (int v : Twins.outside(0, 1)) s.refused("GO " + v, Twins::some, y -> y.heard(2, v), -1);
        for (int what : Twins.outside(0, 2)) s.refused("what " + what, Twins::some, y -> y.heard(what, 1), -1);
        for (int i = 8; i <= 12; i++) s.is("the twelfth is taken", x.heard(1, 1), i);
        s.is("12 are there", x.heard(1, 1), -1);
        s.refused("12 are there, nothing changes", Twins::full, y -> y.heard(0, 0), -1);
    }

    private static void forget() {
        s.promise(37, "forget");
        s.says("It is forgotten: how many there were");
        ThornHedge x = suspects();
        s.is("none", x.forget(), 0);
        x.heard(0, 3);
        x.heard(1, 6);
        s.is("none fits", x.fits(), 0);
        s.is("two", x.forget(), 2);
        s.is("none is left", x.count(11), 0);
        s.is("all fit", x.fits(), 31);
        s.is("none any more", x.forget(), 0);
        s.is("the first anew", x.heard(0, 1), 1);
        s.is("it alone counts", x.fits(), 2);
    }

    private static void fits() {
        s.promise(38, "fits");
        s.says("CARRIERS (bits) that fit all that was heard");
        s.is("nothing heard", fitting(), 31);
        s.is("two things", fitting(2, 1, 1, 5), 24);
        s.is("three things", fitting(2, 1, 1, 5, 0, 3), 8);
        s.is("what can't be", fitting(2, 1, 2, 0), 0);
        s.is("the last alone can't", fitting(1, 1, 1, 2, 0, 4, 1, 7), 0);
        s.is("no CARRIERS", new ThornHedge().fits(), 0);
        s.says("the ROW: how many, their LOADS");
        ThornHedge x = suspects();
        x.fits();
        s.row("all", x, 5, 20);
        x.heard(2, 1);
        x.fits();
        s.row("such as go", x, 3, 15);
        x.heard(0, 0);
        x.fits();
        s.row("none", x, 0, 0);
    }

    private static void ask() {
        s.promise(39, "ask");
        s.says("The LOAD v (1 .. 9) to ask about, so that, v or more, or less, the fewest such CARRIERS are left at most");
        String[] bands = {"01;09", "01;02;03;04;05;06;07;08", "08;09", "05;05;05;05;09", "01;01;01;02;09", "02;02;09;09"};
        int[][] due = {{2, 1}, {5, 4}, {9, 1}, {6, 4}, {2, 3}, {3, 2}};
        for (int i = 0; i < bands.length; i++) s.is("of " + bands[i], Checks.made("0", bands[i]).ask(), due[i][0]);
        ThornHedge x = Checks.made("0", "01;12;19");
        x.heard(0, 1);
        s.is("of such as fit", x.ask(), 3);
        ThornHedge others = Checks.made("0", "09;12;19");
        others.heard(0, 1);
        s.is("of such as fit, not of others", others.ask(), 3);
        s.says("of equal ones the least: it");
        s.is("of one", Checks.made("0", "09").ask(), 1);
        s.is("of three alike", Checks.made("0", "05;05;05").ask(), 1);
        s.is("3 as 4 to 9", Checks.made("0", "02;09").ask(), 3);
        s.says("the ROW: how many at most");
        for (int i = 0; i < bands.length; i++) {
            ThornHedge y = Checks.made("0", bands[i]);
            y.ask();
            s.row("of " + bands[i], y, due[i][1]);
        }
        s.says("-2: none fits");
        s.is("no CARRIERS", new ThornHedge().ask(), -2);
        x.heard(0, 0);
        s.is("none of three", x.ask(), -2);
    }

    private static void law() {
        s.promise(40, "law");
        s.says("THE TEXT is another RULE (an empty one: none): loads that come over in 10 WEEKS by it, less those by THE RULE: how many");
        String[] rules = {"", "0", "999", "h*9", "w*20", "g*99+n", "l*14"};
        for (int i = 0; i < LANDS.length; i++) {
            for (String rule : rules) {
                ThornHedge x = land(i), by = land(i);
                Checks.text(by, rule).rule();
                s.is("land " + i + ", '" + rule + "'", Checks.text(x, rule).law(), by.weeks(10) - land(i).weeks(10));
                s.is("land " + i + ", THE TEXT is empty", x.count(14), 0);
                s.is("land " + i + ", THE RULE stays", x.ahead(20), land(i).ahead(20));
            }
        }
        s.says("the ROW: both");
        for (int i = 0; i < LANDS.length; i++) {
            for (String rule : rules) {
                ThornHedge x = land(i), by = land(i);
                Checks.text(by, rule).rule();
                Checks.text(x, rule).law();
                s.row("land " + i + ", '" + rule + "'", x, by.weeks(10), land(i).weeks(10));
            }
        }
        s.says("-10000 - p: the sign at p can't stand there (as rule())");
        String forty = Checks.times("h+", 19) + "12";
        String[] texts = {"x", "hh", "h+", "h<g<l", "(((((h", "1234", "(h", "-", forty + "3", Checks.times("h+", 20), forty.substring(0, 39) + "x", Checks.times("-", 80)};
        int[] places = {0, 1, 2, 3, 4, 3, 2, 1, 40, 40, 39, 40};
        for (int i = 0; i < texts.length; i++) {
            s.is("'" + texts[i] + "', as rule()", Checks.text(new ThornHedge(), texts[i]).rule(), -1 - places[i]);
            for (Twins.Maker maker : MAKERS) s.refusedText(maker, texts[i], ThornHedge::law, -10000 - places[i]);
        }
    }

    // ---- rests, years

    private static int[] payoff(int x, int y, int v, int r) {
        return y >= x ? new int[] {y, v - y} : new int[] {r, 0};
    }

    private static void rests() {
        s.promise(41, "rests");
        s.says("A guard asks for x (0 .. 9), a carrier offers y (0 .. 9): if y is x or more, the guard has y, the carrier v (0 .. 20) less y; else the guard has r (0 .. 9), the carrier 0");
        s.is("nothing is worth anything", new ThornHedge().rests(0, 0), 10);
        s.is("the carrier would pay, the guard has as much else", new ThornHedge().rests(20, 5), 5);
        s.says("Pairs by which neither would have more by another number alone: how many");
        for (int v = 0; v <= 20; v++) for (int r = 0; r <= 9; r++) s.is("rests(" + v + ", " + r + ")", new ThornHedge().rests(v, r), resting(v, r)[0]);
        s.says("the ROW: the least (x, y; nothing without)");
        ThornHedge x = new ThornHedge();
        for (int v = 0; v <= 20; v++) {
            for (int r = 0; r <= 9; r++) {
                int[] due = resting(v, r);
                x.goes();
                x.rests(v, r);
                if (due[0] > 0) s.row("rests(" + v + ", " + r + ")", x, due[1], due[2]);
                else s.row("rests(" + v + ", " + r + ")", x);
            }
        }
        s.says("NONE: others");
        refusals("rests(v, 5)", 0, 20, (y, v) -> y.rests(v, 5));
        refusals("rests(5, r)", 0, 9, (y, r) -> y.rests(5, r));
    }

    /** How many, and the least. */
    private static int[] resting(int v, int r) {
        int[] found = {0, -1, -1};
        for (int x = 0; x <= 9; x++) {
            for (int y = 0; y <= 9; y++) {
                int[] has = payoff(x, y, v, r);
                boolean rest = true;
                for (int other = 0; other <= 9; other++) rest &= payoff(other, y, v, r)[0] <= has[0] && payoff(x, other, v, r)[1] <= has[1];
                if (rest && found[0]++ == 0) {
                    found[1] = x;
                    found[2] = y;
                }
            }
        }
        return found;
    }

    private static int drawn;

    private static int draw(int n) {
        drawn = drawn * 1103515245 + 12345;
        return (int) ((drawn & 0xffffffffL) / 65536 % n);
    }

    /** The years done by acts: loads; the object is as it is then. */
    private static int lived(ThornHedge x, int seed, int n) {
        int loads = 0;
        drawn = seed;
        for (int i = 0; i < n; i++) {
            int act = draw(5);
            if (act <= 1) {
                loads += x.weeks(1);
                continue;
            }
            int mile = draw(x.count(0));
            if (act == 2) x.guard(mile, Math.min(9, x.mile(mile, 2) + 1));
            if (act == 3) x.guard(mile, Math.max(0, x.mile(mile, 2) - 1));
            if (act == 4) x.plant(mile, 2);
        }
        return loads;
    }

    private static void years() {
        s.promise(42, "years");
        int[] seeds = {0, 1, -1, 7, 12345, -99999, Integer.MIN_VALUE, Integer.MAX_VALUE};
        s.says("n times (1 .. 60): a DRAW of 5 tells: 0, 1: a WEEK; 2: a DRAW of MILES tells one that has a man more (9 at most); 3: a DRAW of MILES one that has a man less (0 at least);"
            + " 4: a DRAW of MILES one whose HEDGE is 2 more (9 at most; not at a GATE): loads that came over in these");
        for (int i = 0; i < LANDS.length; i++) {
            for (int seed : seeds) for (int n : new int[] {1, 2, 10, 60}) s.is("land " + i + ", years(" + seed + ", " + n + ")", land(i).years(seed, n), lived(land(i), seed, n));
        }
        boundedYears();
        ThornHedge later = Checks.made("0", "41");
        later.weeks(5);
        // seed 3: a WEEK
        s.is("in these alone", later.years(3, 1), 1);
        s.says("the ROW: HEDGES together, MEN together then");
        for (int i = 0; i < LANDS.length; i++) {
            for (int seed : seeds) {
                for (int n : new int[] {1, 2, 10, 60}) {
                    ThornHedge x = land(i), then = land(i);
                    x.years(seed, n);
                    lived(then, seed, n);
                    s.row("land " + i + ", years(" + seed + ", " + n + ")", x, then.count(9), then.count(7));
                }
            }
        }
        s.says("NONE: another n");
        for (int seed : seeds) for (int n : Twins.outside(1, 60)) for (Twins.Maker maker : MAKERS) s.refused("years(" + seed + ", " + n + ")", maker, x -> x.years(seed, n), -1);
        s.says("A DRAW of n: R = R times 1103515245 + 12345 (as ints; R is seed at first), (R without sign, by 65536) % n");
        // seed 1: 1103527590, by 65536 is 16838, % 5 is 3; seed 3: -984396926 or 3310570370, 50515, 0
        ThornHedge x = Checks.made("9", "41");
        x.guard(0, 2);
        s.is("seed 1, a man less", x.years(1, 1), 0);
        s.row("seed 1, a man less", x, 9, 1);
        s.is("seed 3, a WEEK", x.years(3, 1), 1);
        s.row("seed 3, a WEEK", x, 9, 2);
    }

    /** At the bounds: nine men, none, a hedge of 8, a GATE. */
    private static void boundedYears() {
        for (int seed = 0; seed < 30; seed++) {
            drawn = seed;
            int act = draw(5);
            for (int men : new int[] {0, 5, 9}) {
                ThornHedge x = Checks.made("8", "");
                x.guard(0, men);
                x.years(seed, 1);
                int then = act == 2 ? Math.min(9, men + 1) : act == 3 ? Math.max(0, men - 1) : men;
                s.row("act " + act + ", " + men + " MEN", x, act == 4 ? 9 : 8, then);
                ThornHedge gate = Checks.made("G", "");
                gate.years(seed, 1);
                s.row("act " + act + ", a GATE", gate, 0, act == 2 ? 1 : 0);
            }
        }
    }

    // ---- kept

    private static String held(ThornHedge x) {
        StringBuilder all = new StringBuilder();
        for (int what = 3; what <= 9; what++) all.append(x.count(what)).append(' ');
        for (int m = 0; m < x.count(0); m++) all.append(x.mile(m, 0)).append(x.mile(m, 1)).append(x.mile(m, 2)).append(' ');
        return all.toString();
    }

    private static void changed(ThornHedge x, int by) {
        Checks.text(x, "gamc3c0" + by + "d7" + by + "pb1w" + by).log();
        x.guard(0, by);
        x.gate(0);
        x.price(0, by);
        x.price(1, 40 + by);
        x.weeks(by);
        x.sheet(2, 2, by, 1);
    }

    private static void keep() {
        s.promise(43, "keep");
        s.says("HEDGES, GATES, MEN, CHEAP, DEAR, OVER, WEEK are kept under a number 0 .. 2: true");
        for (int i = 0; i < 3; i++) {
            ThornHedge x = land(1);
            changed(x, 3);
            String was = held(x);
            int undone = x.count(12);
            s.is("keep(" + i + ")", x.keep(i), true);
            s.same("all is as it was", held(x), was);
            s.is("what can be undone stays", x.count(12), undone);
            changed(x, 5);
            s.is("something changed", held(x).equals(was), false);
            s.is("again(" + i + ")", x.again(i), true);
            s.same("as it was kept under " + i, held(x), was);
        }
        ThornHedge anew = land(1);
        anew.keep(2);
        anew.guard(0, 7);
        anew.keep(2);
        anew.guard(0, 0);
        anew.again(2);
        s.is("anew under a number", anew.mile(0, 2), 7);
        s.says("Refused: others");
        for (int i : Twins.outside(0, 2)) for (Twins.Maker maker : MAKERS) s.refused("keep(" + i + ")", maker, x -> x.keep(i) ? 1 : 0, 0);
    }

    private static void again() {
        s.promise(44, "again");
        s.says("They are as they were kept under a number");
        ThornHedge x = land(1);
        String[] was = new String[3];
        for (int i = 0; i < 3; i++) {
            changed(x, i + 2);
            x.keep(i);
            was[i] = held(x);
        }
        for (int i : new int[] {1, 0, 2, 2, 0, 1}) {
            s.is("again(" + i + ")", x.again(i), true);
            s.same("as under " + i, held(x), was[i]);
            changed(x, 6);
        }
        Checks.text(x, "01").carriers();
        x.again(0);
        s.is("CARRIERS stay", x.count(1), 6);
        s.says("Refused: nothing kept");
        for (int i = 0; i < 3; i++) {
            int at = i;
            s.refused("under " + i, ThornHedge::new, y -> y.again(at) ? 1 : 0, 0);
            ThornHedge one = new ThornHedge();
            one.keep(i);
            for (int j = 0; j < 3; j++) s.is("kept under " + i + ", again(" + j + ")", one.again(j), i == j);
        }
        s.refused("under 1", Twins::some, y -> y.again(1) ? 1 : 0, 0);
        for (int i : Twins.outside(0, 2)) for (Twins.Maker maker : MAKERS) s.refused("again(" + i + ")", maker, y -> y.again(i) ? 1 : 0, 0);
    }

    private static void count() {
        s.promise(45, "count");
        ThornHedge x = Checks.made("4G9G9", "11;22;33");
        Checks.text(x, "1,1;2,2").mouths();
        Checks.text(x, "fffdr").weather();
        x.price(0, 3);
        x.price(1, 30);
        x.guard(0, 2);
        x.guard(1, 3);
        x.heard(1, 1);
        x.weeks(4);
        x.walls();
        x.sign(0);
        // camels to MILE 2 (from 9 to 1) and bread to MILE 3: 4 loads a WEEK; dry in WEEK 3
        String[] names = {"What 0: MILES", "1: CARRIERS", "2: sorts of MOUTHS", "3: CHEAP", "4: DEAR", "5: WEEK", "6: OVER", "7: MEN of all MILES", "8: GATES (bits)", "9: HEDGES together",
            "10: signs of WEATHER", "11: what was heard", "12: what can be undone", "13: numbers of the ROW", "14: signs of THE TEXT"};
        int[] due = {5, 3, 2, 3, 30, 4, 16, 5, 10, 11, 5, 1, 5, 1, 4};
        int[] first = {1, 0, 0, 5, 20, 0, 0, 0, 0, 0, 1, 0, 0, 0, 0}, full = {12, 8, 8, 5, 20, 3, -1, 108, 0x2AA, -1, 20, 12, 15, 12, 80};
        for (int what = 0; what < names.length; what++) {
            s.says(names[what]);
            s.is("of some", x.count(what), due[what]);
            s.is("at first", new ThornHedge().count(what), first[what]);
            if (full[what] >= 0) s.is("of all", Twins.full().count(what), full[what]);
        }
        s.says("-100 for another what");
        for (int what : Twins.outside(0, 14)) for (Twins.Maker maker : MAKERS) s.refused("count(" + what + ")", maker, y -> y.count(what), -100);
    }

    private static void row() {
        s.promise(46, "row");
        s.says("Number i of the ROW");
        ThornHedge x = Checks.made("000000000000", "");
        x.beats(4);
        for (int i = 0; i < 12; i++) s.is("row(" + i + ")", x.row(i), i == 11 ? 4 : 0);
        x.caught(10, 10, 9);
        s.is("beyond ints, row(0)", x.row(0), 3486784401L);
        s.is("beyond ints, row(1)", x.row(1), 10000000000L);
        s.says("NoSuchElementException: none such");
        for (int i : new int[] {-1, 2, 3, 11, 12, Integer.MIN_VALUE, Integer.MAX_VALUE}) s.thrown("row(" + i + ") of two", () -> x.row(i));
        s.thrown("of none", () -> new ThornHedge().row(0));
        for (Twins.Maker maker : MAKERS) s.refused("nothing changes", maker, y -> y.row(12), Twins.THROWN);
    }
}
