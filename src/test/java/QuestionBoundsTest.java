import java.math.BigInteger;

/** The boundary cases of promises 21 to 42, each sentence by itself. */
public final class QuestionBoundsTest {
    private static final Checks c = new Checks("QuestionBoundsTest");
    private static final Twins.Maker[] MAKERS = {ThornHedge::new, Twins::some, Twins::full};

    public static void main(String[] args) {
        ranges();
        questionsChangeNothing();
        rowsAtMinusTwo();
        goesNobody();
        goesBusiest();
        aheadBounds();
        holdsBounds();
        keepsBounds();
        taxBounds();
        taxAtEachDear();
        withoutBounds();
        withoutHalf();
        beatsBounds();
        thornsBounds();
        wallsBounds();
        postsBounds();
        roundsBounds();
        roundsTurn();
        rewardBounds();
        paysBounds();
        caughtBounds();
        lastsBounds();
        heardBounds();
        heardIsFull();
        fitsBounds();
        askBounds();
        lawBounds();
        restsBounds();
        yearsBounds();
        yearsDraws();
        c.end();
    }

    /** Of each argument the first and the last that are taken, those beside them, the farthest ints. */
    private static void ranges() {
        for (Twins.Maker maker : MAKERS) {
            c.range("22: ahead(n)", maker, 0, 99, (x, n) -> x.ahead(n));
            c.range("26: without(v)", maker, 0, 99, (x, v) -> x.without(v));
            c.range("27: beats(k)", maker, 0, 4, (x, k) -> x.beats(k));
            c.range("28: thorns(n)", maker, 1, 20, (x, n) -> x.thorns(n));
            c.range("30: posts(r)", maker, 0, 11, (x, r) -> x.posts(r));
            c.range("31: rounds(n, 0)", maker, 1, 9, (x, n) -> x.rounds(n, 0));
            c.range("31: rounds(9, k)", maker, 0, 60, (x, k) -> x.rounds(9, k));
            c.range("33: pays(v)", maker, 0, 999, (x, v) -> x.pays(v));
            c.range("34: caught(n, 0, 0)", maker, 1, 10, (x, n) -> x.caught(n, 0, 0));
            c.range("34: caught(10, k, 10)", maker, 0, 10, (x, k) -> x.caught(10, k, 10));
            c.range("34: caught(1, 10, p)", maker, 0, 10, (x, p) -> x.caught(1, 10, p));
            c.range("35: lasts(p, 100)", maker, 0, 10, (x, p) -> x.lasts(p, 100));
            c.range("35: lasts(10, v)", maker, 0, 100, (x, v) -> x.lasts(10, v));
            c.range("41: rests(v, 9)", maker, 0, 20, (x, v) -> x.rests(v, 9));
            c.range("41: rests(20, r)", maker, 0, 9, (x, r) -> x.rests(20, r));
            for (int seed : new int[] {0, -1, Integer.MIN_VALUE, Integer.MAX_VALUE}) c.range("42: years(" + seed + ", n)", maker, 1, 60, (x, n) -> x.years(seed, n));
            int many = maker.make().count(1);
            for (int i : Twins.outside(0, many - 1)) c.refused("32: reward(" + i + ")", maker, x -> x.reward(i));
            if (many > 0) c.due("32: reward of the last", maker.make().reward(many - 1) >= 0, true);
        }
    }

    private static void questionsChangeNothing() {
        for (Twins.Maker maker : MAKERS) {
            c.question("10: carrier()", maker, x -> x.count(1) > 0 ? x.carrier(0, 2) + x.carrier(0, 3) : 0);
            c.question("12: danger()", maker, x -> x.danger(0, 0));
            c.question("21: goes()", maker, x -> x.goes());
            for (int n : new int[] {0, 1, 99}) c.question("22: ahead(" + n + ")", maker, x -> x.ahead(n));
            c.question("23: holds()", maker, x -> x.holds());
            c.question("24: keeps()", maker, x -> x.keeps());
            c.question("25: tax()", maker, x -> x.tax());
            for (int v : new int[] {0, 99}) c.question("26: without(" + v + ")", maker, x -> x.without(v));
            for (int k : new int[] {0, 4}) c.question("27: beats(" + k + ")", maker, x -> x.beats(k));
            for (int n : new int[] {1, 20}) c.question("28: thorns(" + n + ")", maker, x -> x.thorns(n));
            c.question("29: walls()", maker, x -> x.walls());
            for (int r : new int[] {0, 11}) c.question("30: posts(" + r + ")", maker, x -> x.posts(r));
            for (int k : new int[] {0, 60}) c.question("31: rounds(9, " + k + ")", maker, x -> x.rounds(9, k));
            c.question("32: reward()", maker, x -> x.reward(0));
            for (int v : new int[] {0, 999}) c.question("33: pays(" + v + ")", maker, x -> x.pays(v));
            c.question("34: caught()", maker, x -> x.caught(10, 5, 5));
            c.question("35: lasts()", maker, x -> x.lasts(5, 5));
            c.question("38: fits()", maker, x -> x.fits());
            c.question("39: ask()", maker, x -> x.ask());
            c.question("41: rests()", maker, x -> x.rests(20, 9));
            for (int n : new int[] {1, 60}) c.question("42: years(7, " + n + ")", maker, x -> x.years(7, n));
            for (String rule : new String[] {"", "1", "999-h"}) {
                ThornHedge x = Checks.text(maker.make(), rule);
                x.law();
                c.due("40: law() empties THE TEXT", x.count(14), 0);
                c.alike("40: law()", x, maker.make(), false, false);
            }
        }
    }

    /** Answers that tell of none have no numbers to tell: the ROW is what was told last. */
    private static void rowsAtMinusTwo() {
        c.refused("23: not in 99", () -> Checks.made("9", "01"), x -> x.holds(), -2);
        c.refused("23: not in 99, nobody is there", ThornHedge::new, x -> x.holds(), -2);
        Twins.Maker gates = () -> {
            ThornHedge x = Checks.made("GG", "35");
            x.beats(2);
            return x;
        };
        c.refused("28: there are GATES alone", gates, x -> x.thorns(1), -2);
        c.refused("28: there are GATES alone, twenty WEEKS", gates, x -> x.thorns(20), -2);
        for (int n : new int[] {0, 21, Integer.MIN_VALUE, Integer.MAX_VALUE}) c.refused("28: GATES alone, but another n", gates, x -> x.thorns(n));
        Twins.Maker none = () -> {
            ThornHedge x = Checks.made("0", "35");
            x.goes();
            x.heard(0, 1);
            return x;
        };
        c.refused("39: none fits", none, x -> x.ask(), -2);
        c.refused("39: none is there", ThornHedge::new, x -> x.ask(), -2);
    }

    // ---- what comes over

    private static void goesNobody() {
        ThornHedge x = new ThornHedge();
        c.due("21: nobody is there", x.goes(), 0);
        c.row("21: nobody is there", x, 0, -1);
        ThornHedge stay = Checks.made("9", "09;19");
        stay.price(1, 5);
        c.due("21: nobody goes", stay.goes(), 0);
        c.row("21: nobody goes", stay, 0, -1);
        ThornHedge earth = Checks.made("99", "49;41");
        c.due("21: of earth alone", earth.goes(), 3);
        c.row("21: KIND 4 aside, NONE", earth, 10, -1);
        ThornHedge all = Checks.made("0", "09;09;09;09;09;09;09;09");
        c.due("21: all eight", all.goes(), 255);
        c.row("21: all eight", all, 72, 0);
    }

    private static void goesBusiest() {
        ThornHedge even = Checks.made("0G", "35;05");
        even.goes();
        c.row("21: of equal ones the first", even, 10, 0);
        ThornHedge more = Checks.made("0G", "36;05");
        more.goes();
        c.row("21: the most", more, 11, 1);
        ThornHedge both = Checks.made("0G", "02;33;02");
        both.goes();
        c.row("21: loads over a MILE together", both, 7, 0);
        both.gate(0);
        c.due("21: anew each time", both.goes(), 2);
        c.row("21: loads of this WEEK alone", both, 3, 0);
        both.price(1, 0);
        c.due("21: nobody any more", both.goes(), 0);
        c.row("21: nobody any more", both, 0, -1);
        ThornHedge earth = Checks.made("0G", "31;49");
        earth.goes();
        c.row("21: KIND 4 aside, though it brings more", earth, 10, 1);
        // camels open the mile at 2 (10 against 10), so the last baskets follow
        ThornHedge behind = Checks.made("G2", "01;12;01");
        behind.price(1, 15);
        c.due("21: one behind the other", behind.goes(), 6);
        c.row("21: one behind the other", behind, 3, 1);
        ThornHedge last = Checks.made("99999999999G", "31");
        last.goes();
        c.row("21: the last MILE", last, 1, 11);
    }

    private static void aheadBounds() {
        ThornHedge x = Checks.made("9", "01;41");
        Checks.text(x, "d").weather();
        c.due("22: no WEEKS", x.ahead(0), 0);
        c.row("22: no WEEKS", x, 9, 0);
        c.due("22: one WEEK", x.ahead(1), 1);
        c.row("22: one WEEK", x, 8, 0);
        // of earth each week; baskets (15) once the hedge is 2, from the eighth week on
        c.due("22: ninety-nine WEEKS", x.ahead(99), 99 + 92);
        c.row("22: ninety-nine WEEKS", x, 0, 0);
        ThornHedge quiet = Checks.made("9", "01");
        c.due("22: nothing comes", quiet.ahead(99), 0);
        c.row("22: nothing came in any", quiet, 9, 99);
        Checks.text(quiet, "d").weather();
        c.due("22: eight WEEKS", quiet.ahead(8), 1);
        c.row("22: nothing came in seven", quiet, 1, 7);
    }

    private static void holdsBounds() {
        ThornHedge now = Checks.made("0", "41;01;09");
        c.due("23: this one", now.holds(), 0);
        c.row("23: this one, who", now, 7);
        ThornHedge week = Checks.made("0", "21");
        for (int n = 1; n <= 20; n++) {
            Checks.text(week, Checks.times("f", n - 1) + "r").weather();
            c.due("23: rain in the last of " + n, week.holds(), n - 1);
            c.row("23: rain in the last of " + n, week, 1);
        }
        c.due("23: in WEEK 98 of 99", lateAnts(97).holds(), 98);
        c.due("23: in the hundredth, not in 99", lateAnts(98).holds(), -2);
        ThornHedge later = lateAnts(98);
        later.weeks(1);
        c.due("23: a WEEK later", later.holds(), 98);
        c.row("23: a WEEK later, who", later, 1);
        later.weeks(60);
        c.due("23: sixty WEEKS later", later.holds(), 38);
    }

    /** Ants eat the one mile without men in this WEEK of 209 alone; baskets come in the next. */
    private static ThornHedge lateAnts(int week) {
        ThornHedge x = Checks.made("99999999999", "01");
        for (int m = 0; m < 11; m++) if (m != week % 11) x.guard(m, 9);
        Checks.text(x, Checks.times("f", week % 19) + "a" + Checks.times("f", 18 - week % 19)).weather();
        return x;
    }

    private static void keepsBounds() {
        c.due("24: nobody is there", new ThornHedge().keeps(), 99);
        ThornHedge x = Checks.made("0", "01");
        for (int cheap : new int[] {0, 1, 50, 98, 99}) {
            x.price(0, cheap);
            Checks.text(x, "0").rule();
            c.due("24: without DANGER, CHEAP " + cheap, x.keeps(), cheap);
            Checks.text(x, "1").rule();
            c.due("24: DANGER 1, CHEAP " + cheap, x.keeps(), Math.min(99, cheap + 1));
        }
        x.price(0, 0);
        Checks.text(x, "98").rule();
        c.due("24: at 98, not at 99", x.keeps(), 98);
        Checks.text(x, "99").rule();
        c.due("24: at 99", x.keeps(), 99);
        Checks.text(x, "999").rule();
        c.due("24: 99 at most", x.keeps(), 99);
        ThornHedge nine = Checks.made("0", "09");
        nine.price(0, 0);
        int[][] due = {{0, 0}, {8, 0}, {9, 1}, {17, 1}, {18, 2}, {890, 98}, {891, 99}};
        for (int[] d : due) {
            Checks.text(nine, "" + d[0]).rule();
            c.due("24: LOAD 9, DANGER " + d[0], nine.keeps(), d[1]);
        }
        ThornHedge gates = Checks.made("G", "09;19;29");
        c.due("24: there is no MILE where they can", gates.keeps(), 99);
    }

    private static void taxBounds() {
        ThornHedge none = new ThornHedge();
        c.due("25: no MOUTHS", none.tax(), 0);
        c.row("25: no MOUTHS", none, 0, 0);
        int[][] due = {{0, 0, 0, 0}, {5, 0, 0, 0}, {6, 6, 1, 0}, {98, 98, 93, 0}, {99, 99, 94, 0}};
        for (int[] d : due) {
            ThornHedge x = Checks.text(new ThornHedge(), "1," + d[0]);
            x.mouths();
            c.due("25: one of PURSE " + d[0], x.tax(), d[1]);
            c.row("25: one of PURSE " + d[0], x, d[2], d[3]);
        }
        ThornHedge equal = Checks.text(new ThornHedge(), "1,7;1,9");
        equal.mouths();
        equal.price(0, 5);
        // at 7 2 by 2, at 9 4 by 1
        c.due("25: of equal ones the least", equal.tax(), 7);
        c.row("25: of equal ones the least", equal, 4, 0);
        // loads come over at more than 5: of 9 people none are left
        ThornHedge all = Checks.made("0", "09");
        Checks.text(all, "9,99").mouths();
        c.due("25: as many loads as PEOPLE, 0 at least", all.tax(), 0);
        c.row("25: as many loads as PEOPLE", all, 0, 0);
        Checks.text(all, "1,99").mouths();
        c.due("25: one more than loads", all.tax(), 99);
        c.row("25: one more than loads", all, 94, 0);
        ThornHedge fewer = Checks.made("0", "09");
        Checks.text(fewer, "8,99").mouths();
        c.due("25: fewer than loads, 0 at least", fewer.tax(), 0);
        c.row("25: fewer than loads", fewer, 0, 0);
        ThornHedge cheap = Checks.text(new ThornHedge(), "99,99");
        cheap.mouths();
        cheap.price(0, 99);
        c.due("25: CHEAP 99, nothing is more", cheap.tax(), 0);
        c.row("25: CHEAP 99", cheap, 0, 0);
        cheap.price(0, 98);
        c.due("25: CHEAP 98", cheap.tax(), 99);
        c.row("25: CHEAP 98", cheap, 99, 0);
        cheap.price(0, 0);
        Checks.text(cheap, Checks.times("99,99;", 6) + "99,98").mouths();
        c.due("25: the most that can be", cheap.tax(), 98);
        c.row("25: the most that can be", cheap, 98 * 99 * 8, 0);
        ThornHedge poor = Checks.text(new ThornHedge(), "1,7;1,30");
        poor.mouths();
        c.due("25: some go without", poor.tax(), 30);
        c.row("25: some go without", poor, 25, 1);
    }

    private static void taxAtEachDear() {
        // DANGER 10: at 16 the load of 1 comes, up to 15 nothing does; DEAR is 20 now
        ThornHedge x = Checks.made("2", "01");
        Checks.text(x, "2,16;1,15").mouths();
        c.due("25: loads at that DEAR, not at this one", x.tax(), 15);
        c.row("25: three by 10, not two less one by 11", x, 30, 0);
        x.price(1, 0);
        c.due("25: whatever DEAR is now", x.tax(), 15);
        // camels go above 20 and eat 2 of 9; baskets go behind them above 35
        ThornHedge each = Checks.made("9", "11;01");
        each.price(0, 0);
        Checks.text(each, "2,22").mouths();
        c.due("25: two by 20, not one by 22", each.tax(), 20);
        c.row("25: two by 20, not one by 22", each, 40, 0);
        Checks.text(each, "1,35").mouths();
        c.due("25: three by 20", each.tax(), 20);
        c.row("25: three by 20", each, 60, 0);
        ThornHedge eaten = Checks.made("9", "11;01");
        eaten.price(0, 0);
        Checks.text(eaten, "3,36").mouths();
        // at 35 just the camels come, as what they ate at 21 to 34 does not count
        c.due("25: each DEAR as all is now", eaten.tax(), 35);
        c.row("25: two by 35", eaten, 70, 0);
    }

    private static void withoutBounds() {
        ThornHedge x = Checks.text(new ThornHedge(), "1,0;2,1;4,98;8,99");
        x.mouths();
        int[][] due = {{0, 0, 0, 0}, {1, 1, 1, 0}, {2, 3, 3, 1}, {97, 3, 3, 1}, {98, 3, 3, 1}, {99, 7, 7, 98}};
        for (int[] d : due) {
            c.due("26: without(" + d[0] + ")", x.without(d[0]), d[1]);
            c.row("26: without(" + d[0] + "), the PURSE is less", x, d[2], d[3]);
        }
        ThornHedge nobody = new ThornHedge();
        for (int v : new int[] {0, 1, 99}) {
            c.due("26: no MOUTHS", nobody.without(v), 0);
            c.row("26: no MOUTHS", nobody, 0, v);
        }
        ThornHedge full = Checks.text(new ThornHedge(), Checks.times("99,98;", 7) + "99,98");
        full.mouths();
        c.due("26: all eight", full.without(99), 792);
        c.row("26: all eight", full, 255, 98);
    }

    private static void withoutHalf() {
        int[][] due = {{1, 1, 9}, {2, 1, 5}, {1, 2, 9}, {3, 4, 9}, {2, 3, 9}, {4, 3, 5}, {2, 2, 9}, {3, 3, 9}};
        for (int[] d : due) {
            ThornHedge x = Checks.text(new ThornHedge(), d[0] + ",5;" + d[1] + ",9");
            x.mouths();
            c.due("26: all go without", x.without(50), d[0] + d[1]);
            c.row("26: no more than half of these, cut, " + d[0] + " of " + (d[0] + d[1]), x, 3, d[2]);
        }
        ThornHedge one = Checks.text(new ThornHedge(), "1,5");
        one.mouths();
        one.without(6);
        c.row("26: half of one, cut, is 0", one, 1, 5);
    }

    // ---- guards, thorns

    private static void beatsBounds() {
        for (int k = 0; k <= 4; k++) {
            ThornHedge x = Checks.made("0", "");
            x.guard(0, 9);
            c.due("27: just " + k, x.beats(k), 0);
            c.row("27: just " + k + ", all others gone", x, k);
            ThornHedge wide = Checks.made("000000000000", "");
            c.due("27: of twelve miles, just " + k, wide.beats(k), 0);
            c.row("27: of as good ones the least row", wide, 0, 0, 0, 0, 0, 0, 0, 0, 0, 0, 0, k);
        }
        ThornHedge one = Checks.made("0", "01");
        one.price(1, 45);
        c.due("27: 40 is not more than 40", one.beats(4), 0);
        one.price(1, 46);
        c.due("27: 41 is more than 40", one.beats(4), 1);
        c.row("27: four all the same", one, 4);
        ThornHedge gone = Checks.made("00", "01");
        gone.guard(0, 9);
        gone.guard(1, 9);
        c.due("27: those who are there are gone", gone.beats(0), 1);
        c.row("27: none", gone, 0, 0);
        ThornHedge first = Checks.made("0GGGGGGGGGGG", "01");
        c.due("27: at the first", first.beats(2), 0);
        c.row("27: at the first", first, 2, 0, 0, 0, 0, 0, 0, 0, 0, 0, 0, 0);
        c.due("27: at the first, two more at the last", first.beats(4), 0);
        c.row("27: the least row", first, 2, 0, 0, 0, 0, 0, 0, 0, 0, 0, 0, 2);
        ThornHedge none = Checks.made("000", "01;09");
        for (int k = 0; k <= 4; k++) {
            c.due("27: all comes over whatever " + k + " do", none.beats(k), 10);
            c.row("27: as much comes over whatever " + k + " do, the least row", none, 0, 0, k);
        }
        ThornHedge all = Checks.made("0000", "09");
        Checks.text(all, "g*999").rule();
        c.due("27: one at each", all.beats(4), 0);
        c.row("27: one at each", all, 1, 1, 1, 1);
    }

    private static void thornsBounds() {
        ThornHedge single = Checks.made("0", "01");
        c.due("28: one WEEK", single.thorns(1), 0);
        c.row("28: one WEEK", single, 0, 1);
        c.due("28: twenty WEEKS", single.thorns(20), 0);
        c.row("28: twenty WEEKS", single, 0, 20);
        ThornHedge same = Checks.made("000000000000", "01");
        c.due("28: of equal ones the first", same.thorns(20), 0);
        c.row("28: of equal ones the first", same, 20, 20);
        ThornHedge gate = Checks.made("GG5", "01");
        c.due("28: no GATE", gate.thorns(1), 2);
        c.row("28: no GATE", gate, 0, 0);
        ThornHedge last = Checks.made("99999999999" + "0", "01");
        c.due("28: the last", last.thorns(3), 11);
        c.row("28: the last", last, 0, 3);
        ThornHedge nine = Checks.made("9", "01");
        c.due("28: it is 9 as it is", nine.thorns(1), 0);
        c.row("28: it is 9 as it is", nine, 0, 0);
        ThornHedge nobody = Checks.made("G00", "");
        c.due("28: nobody", nobody.thorns(20), 1);
        c.row("28: nobody", nobody, 0, 0);
        ThornHedge worse = Checks.made("00", "01");
        Checks.text(worse, "9-h+g*99").rule();
        worse.guard(1, 1);
        // 9 at mile 0: danger 0 there; 15 is more in each case
        c.due("28: what helps nothing", worse.thorns(2), 0);
        c.row("28: what helps nothing", worse, 2, 2);
    }

    private static void wallsBounds() {
        ThornHedge nobody = new ThornHedge();
        c.due("29: nobody is there", nobody.walls(), 0);
        c.row("29: nobody is there", nobody, 0);
        ThornHedge all = Checks.made("000000000000", "01");
        c.due("29: all MILES", all.walls(), 12);
        c.row("29: all MILES", all, 4095);
        ThornHedge gates = Checks.made("GGGGGGGGGGGG", "09;19;29");
        c.due("29: GATES alone", gates.walls(), 0);
        c.row("29: GATES alone", gates, 0);
        ThornHedge last = Checks.made("G9G0", "01");
        c.due("29: the last", last.walls(), 1);
        c.row("29: the last", last, 8);
        for (int kind = 0; kind <= 4; kind++) {
            ThornHedge x = Checks.made("0G", kind + "9");
            Checks.text(x, "r").weather();
            c.due("29: KIND " + kind, x.walls(), kind <= 2 ? 1 : 0);
            c.row("29: KIND " + kind, x, kind <= 2 ? 1 : 0);
        }
        ThornHedge dry = Checks.made("0", "29");
        c.due("29: flood without rain", dry.walls(), 0);
        // 15 against 15 at the first, against 10 at the second
        ThornHedge even = Checks.made("32", "01");
        c.due("29: as much is not more", even.walls(), 1);
        c.row("29: as much is not more", even, 2);
    }

    private static void postsBounds() {
        for (int miles = 1; miles <= 12; miles++) {
            ThornHedge x = Checks.made(Checks.times("0", miles), "");
            c.due("30: r 0, each of " + miles, x.posts(0), miles);
            c.row("30: r 0, each of " + miles, x, (1 << miles) - 1);
            c.due("30: r 11, one for " + miles, x.posts(11), 1);
            c.row("30: r 11, the least", x, 1);
            for (int r = 0; r <= 11; r++) c.due("30: the fewest for " + miles + " by " + r, x.posts(r), (miles + 2 * r) / (2 * r + 1));
            c.due("30: one is enough for " + miles, x.posts(miles / 2), 1);
            c.row("30: the least place of one", x, 1 << miles - 1 - miles / 2);
        }
        ThornHedge x = Checks.made("000000000000", "");
        c.due("30: r 10, the ends", x.posts(10), 1);
        c.row("30: r 10, not at MILE 0", x, 2);
        c.due("30: GATES and HEDGES aside", Checks.made("9G9", "").posts(1), 1);
    }

    private static void roundsBounds() {
        for (int n = 1; n <= 9; n++) {
            ThornHedge single = Checks.made("0", "");
            for (int k : new int[] {0, 1, 59, 60}) {
                c.due("31: a line of one MILE, they stay", single.rounds(n, k), 0);
                c.row("31: a line of one MILE", single, 0);
            }
            ThornHedge twelve = Checks.made("000000000000", "");
            int start = 4095;
            for (int man = 0; man < n; man++) start &= ~(1 << 2 * man % 12);
            c.due("31: at WEEK 0, " + n + " men from MILE 0, 2, .. (rest)", twelve.rounds(n, 0), start);
            c.row("31: at WEEK 0, " + n + " men", twelve, Integer.bitCount(start));
        }
        ThornHedge two = Checks.made("00", "");
        for (int k = 0; k <= 60; k++) {
            c.due("31: of two MILES, in WEEK " + k, two.rounds(1, k), k % 2 == 0 ? 2 : 1);
            c.row("31: of two MILES, in WEEK " + k, two, 1);
        }
    }

    private static void roundsTurn() {
        for (int miles = 2; miles <= 12; miles++) {
            ThornHedge x = Checks.made(Checks.times("0", miles), "");
            for (int n = 1; n <= 9; n++) {
                int[] at = new int[n], up = new int[n];
                for (int man = 0; man < n; man++) {
                    at[man] = 2 * man % miles;
                    up[man] = 1;
                }
                for (int k = 0; k <= 60; k++) {
                    int bits = (1 << miles) - 1;
                    for (int man = 0; man < n; man++) bits &= ~(1 << at[man]);
                    c.due("31: " + miles + " miles, " + n + " men, WEEK " + k, x.rounds(n, k), bits);
                    for (int man = 0; man < n; man++) {
                        if (at[man] == miles - 1) up[man] = -1;
                        if (at[man] == 0) up[man] = 1;
                        at[man] += up[man];
                    }
                }
            }
        }
    }

    // ---- rewards, chances

    private static void rewardBounds() {
        ThornHedge x = Checks.made("0", "09;01");
        x.price(0, 0);
        x.price(1, 99);
        Checks.text(x, "0").rule();
        c.due("32: the greatest", x.reward(0), 891);
        int[][] due = {{890, 1}, {891, 0}, {892, 0}, {999, 0}, {98, 793}};
        for (int[] d : due) {
            Checks.text(x, "" + d[0]).rule();
            c.due("32: DANGER " + d[0], x.reward(0), d[1]);
        }
        c.due("32: the last", x.reward(1), 1);
        x.price(1, 0);
        c.due("32: it does not GO anyhow", x.reward(0), 0);
        ThornHedge gate = Checks.made("G", "09");
        c.due("32: no MILE where it can", gate.reward(0), 0);
        ThornHedge camels = Checks.made("3", "19;01");
        c.due("32: as all is now, not behind others", camels.reward(1), 0);
    }

    private static void paysBounds() {
        ThornHedge nobody = new ThornHedge();
        for (int v : new int[] {0, 999}) {
            c.due("33: nobody", nobody.pays(v), 0);
            c.row("33: nobody", nobody, 0, 0);
        }
        ThornHedge one = Checks.made("0", "09");
        one.price(0, 0);
        one.price(1, 99);
        int[][] due = {{0, 9, 0, 0}, {890, 9, 0, 0}, {891, 0, 1, 891}, {892, 0, 1, 891}, {999, 0, 1, 891}};
        for (int[] d : due) {
            c.due("33: just the reward, of " + d[0], one.pays(d[0]), d[1]);
            c.row("33: just the reward, of " + d[0], one, d[2], d[3]);
        }
        ThornHedge even = Checks.made("00", "01;01;01");
        int[][] two = {{14, 3, 0, 0}, {15, 2, 1, 15}, {29, 2, 1, 15}, {30, 1, 3, 30}, {44, 1, 3, 30}, {45, 0, 7, 45}};
        for (int[] d : two) {
            c.due("33: of " + d[0], even.pays(d[0]), d[1]);
            c.row("33: of as good ones the least, of " + d[0], even, d[2], d[3]);
        }
        // loads 2 (30 coins) and 2 (bread, half the danger: 30 less 4)
        ThornHedge fewest = Checks.made("0G", "02;32");
        Checks.text(fewest, "8").rule();
        c.due("33: either of two", fewest.pays(26), 2);
        c.row("33: those with the fewest coins", fewest, 1, 22);
        ThornHedge stay = Checks.made("9", "01;01");
        c.due("33: they stay anyhow", stay.pays(999), 0);
        c.row("33: nobody is paid", stay, 0, 0);
        ThornHedge full = Checks.made("0", "09;09;09;09;09;09;09;09");
        c.due("33: seven of eight", full.pays(999), 9);
        c.row("33: seven of eight", full, 127, 945);
    }

    private static void caughtBounds() {
        ThornHedge x = new ThornHedge();
        for (int n = 1; n <= 10; n++) {
            for (int p = 0; p <= 10; p++) {
                c.due("34: 0 or more are", x.caught(n, 0, p), 0);
                c.row("34: 0 or more are", x, 1, 1);
                for (int k = n + 1; k <= 10; k++) {
                    c.due("34: more than there are", x.caught(n, k, p), 0);
                    c.row("34: more than there are, 0 by 1", x, 0, 1);
                }
            }
            for (int k = 1; k <= n; k++) {
                x.caught(n, k, 0);
                c.row("34: none is caught, 0 by 1", x, 0, 1);
                x.caught(n, k, 10);
                c.row("34: all are caught", x, 1, 1);
            }
        }
        x.caught(10, 10, 1);
        c.row("34: a lower number beyond ints", x, 1, 10000000000L);
        x.caught(10, 10, 9);
        c.row("34: both beyond ints", x, 3486784401L, 10000000000L);
        x.caught(10, 1, 9);
        c.row("34: the greatest upper number", x, 9999999999L, 10000000000L);
        x.caught(1, 1, 5);
        c.row("34: in lowest terms", x, 1, 2);
        x.caught(10, 10, 5);
        c.row("34: in lowest terms, ten", x, 1, 1024);
    }

    private static void lastsBounds() {
        ThornHedge x = new ThornHedge();
        for (int p = 0; p <= 10; p++) {
            c.due("35: by 0 in 100, all WEEKS", x.lasts(p, 0), 12);
            c.due("35: by 100 in 100", x.lasts(p, 100), p == 0 ? 12 : 0);
        }
        for (int v = 0; v <= 100; v++) {
            c.due("35: never caught", x.lasts(0, v), 12);
            c.due("35: always caught", x.lasts(10, v), v == 0 ? 12 : 0);
        }
        int[][] due = {{1, 90, 1}, {1, 91, 0}, {1, 81, 2}, {1, 82, 1}, {5, 50, 1}, {5, 51, 0}, {5, 25, 2}, {5, 26, 1}, {5, 13, 2}, {5, 12, 3}, {5, 1, 6}, {9, 10, 1}, {9, 11, 0}, {9, 1, 2}, {9, 2, 1}, {1, 28, 12}, {1, 29, 11}};
        for (int[] d : due) c.due("35: just so much or more, lasts(" + d[0] + ", " + d[1] + ")", x.lasts(d[0], d[1]), d[2]);
        for (int p = 0; p <= 10; p++) {
            for (int v = 0; v <= 100; v++) {
                int most = 0;
                for (int n = 1; n <= 12; n++) {
                    BigInteger goesOn = BigInteger.valueOf(10 - p).pow(n).multiply(BigInteger.valueOf(100));
                    if (goesOn.compareTo(BigInteger.TEN.pow(n).multiply(BigInteger.valueOf(v))) >= 0) most = n;
                }
                c.due("35: lasts(" + p + ", " + v + ")", x.lasts(p, v), most);
            }
        }
        c.due("35: tells no ROW", x.count(13), 0);
    }

    // ---- which it was, laws

    private static void heardBounds() {
        Twins.Maker[] makers = {ThornHedge::new, Twins::some};
        for (Twins.Maker maker : makers) {
            c.range("36: heard(0, v)", maker, 0, 4, (x, v) -> x.heard(0, v));
            c.range("36: heard(1, v)", maker, 1, 9, (x, v) -> x.heard(1, v));
            c.range("36: heard(2, v)", maker, 0, 1, (x, v) -> x.heard(2, v));
            c.range("36: heard(what, 1)", maker, 0, 2, (x, what) -> x.heard(what, 1));
            for (int v : new int[] {0, 1, 4, 9}) for (int what : Twins.outside(0, 2)) c.refused("36: heard(" + what + ", " + v + ")", maker, x -> x.heard(what, v));
            c.refused("37: forget() tells no ROW", ThornHedge::new, x -> x.forget(), 0);
        }
    }

    private static void heardIsFull() {
        for (int what = 0; what <= 2; what++) {
            ThornHedge x = new ThornHedge();
            for (int i = 1; i <= 12; i++) c.due("36: how many such", x.heard(what, 1), i);
            c.due("36: 12 are there", x.heard(what, 1), -1);
            c.due("36: 12 stay", x.count(11), 12);
            c.due("37: how many there were", x.forget(), 12);
            c.due("37: none now", x.forget(), 0);
            c.due("36: the first anew", x.heard(what, 1), 1);
        }
        for (int what = 0; what <= 2; what++) {
            int w = what;
            for (int v = 0; v <= 1; v++) {
                int value = v;
                c.refused("36: refused, 12 are there", Twins::full, x -> x.heard(w, value));
            }
        }
        ThornHedge x = Checks.made("0", "01;02");
        for (int i = 0; i < 11; i++) x.heard(1, 1);
        c.due("36: eleven are there", x.fits(), 3);
        x.heard(1, 2);
        c.due("38: the twelfth counts", x.fits(), 2);
        x.heard(0, 4);
        c.due("38: a refused one does not", x.fits(), 2);
        x.forget();
        c.due("37: forgotten, all fit", x.fits(), 3);
    }

    private static void fitsBounds() {
        ThornHedge none = new ThornHedge();
        c.due("38: no CARRIERS", none.fits(), 0);
        c.row("38: no CARRIERS", none, 0, 0);
        ThornHedge all = Checks.made("0", "09;09;09;09;09;09;09;09");
        c.due("38: nothing heard, all fit", all.fits(), 255);
        c.row("38: all fit", all, 8, 72);
        for (int load = 1; load <= 9; load++) {
            for (int v = 1; v <= 9; v++) {
                ThornHedge x = Checks.made("0", "0" + load);
                x.heard(1, v);
                c.due("38: LOAD " + load + " is " + v + " or more", x.fits(), load >= v ? 1 : 0);
                c.row("38: LOAD " + load + " is " + v + " or more", x, load >= v ? 1 : 0, load >= v ? load : 0);
            }
        }
        for (int kind = 0; kind <= 4; kind++) {
            for (int v = 0; v <= 4; v++) {
                ThornHedge x = Checks.made("0", kind + "1");
                x.heard(0, v);
                c.due("38: KIND " + kind + " is " + v, x.fits(), kind == v ? 1 : 0);
            }
        }
        for (int dear = 5; dear <= 6; dear++) {
            for (int v = 0; v <= 1; v++) {
                ThornHedge x = Checks.made("0", "01");
                x.price(1, dear);
                x.heard(2, v);
                c.due("38: would GO, DEAR " + dear + ", heard " + v, x.fits(), (dear == 6) == (v == 1) ? 1 : 0);
            }
        }
    }

    private static void askBounds() {
        String[] bands = {"01", "09", "01;09", "01;01", "09;09;01", "01;02;03;04;05;06;07;08", "08;09", "01;02", "05;05;05;05;09", "02;02;09;09"};
        int[][] due = {{1, 1}, {1, 1}, {2, 1}, {1, 2}, {2, 2}, {5, 4}, {9, 1}, {2, 1}, {6, 4}, {3, 2}};
        for (int i = 0; i < bands.length; i++) {
            ThornHedge x = Checks.made("0", bands[i]);
            c.due("39: of '" + bands[i] + "', of equal ones the least", x.ask(), due[i][0]);
            c.row("39: of '" + bands[i] + "'", x, due[i][1]);
        }
        ThornHedge x = Checks.made("0", "01;12;19");
        x.heard(0, 1);
        c.due("39: of those that fit alone", x.ask(), 3);
        c.row("39: of those that fit alone", x, 1);
    }

    private static void lawBounds() {
        ThornHedge nobody = new ThornHedge();
        c.due("40: an empty one, none", Checks.text(nobody, "").law(), 0);
        c.row("40: nobody", nobody, 0, 0);
        ThornHedge x = Checks.made("0", "09;09;09;09;09;09;09;09");
        Checks.text(x, "999").rule();
        c.due("40: the most more", Checks.text(x, "0").law(), 720);
        c.row("40: the most more", x, 720, 0);
        c.due("40: none is h*5+g*10", Checks.text(x, "").law(), 720);
        Checks.text(x, "").rule();
        c.due("40: the most less", Checks.text(x, "999").law(), -720);
        c.row("40: the most less", x, 0, 720);
        c.due("40: 10 WEEKS, of which w is 0 twice", Checks.text(x, "999*(w>0)").law(), 144 - 720);
        c.row("40: 10 WEEKS", x, 144, 720);
        // camels go by the law (0) and eat, not by THE RULE (45 less): baskets stay by THE RULE
        ThornHedge camels = Checks.made("99", "11;01");
        c.due("40: both as all is now", Checks.text(camels, "0").law(), 20);
        c.row("40: what one law eats is not eaten for the other", camels, 20, 0);
    }

    // ---- rests, years

    private static void restsBounds() {
        ThornHedge x = new ThornHedge();
        for (int v = 0; v <= 20; v++) {
            for (int r = 0; r <= 9; r++) {
                int many = 0, first = -1;
                for (int pair = 0; pair < 100; pair++) {
                    if (!rests(pair / 10, pair % 10, v, r)) continue;
                    if (many++ == 0) first = pair;
                }
                c.due("41: rests(" + v + ", " + r + ")", x.rests(v, r), many);
                if (many > 0) c.row("41: the least of rests(" + v + ", " + r + ")", x, first / 10, first % 10);
                else c.row("41: nothing without", x);
            }
        }
    }

    private static boolean rests(int x, int y, int v, int r) {
        for (int other = 0; other <= 9; other++) {
            if ((y >= other ? y : r) > (y >= x ? y : r)) return false;
            if ((other >= x ? v - other : 0) > (y >= x ? v - y : 0)) return false;
        }
        return true;
    }

    private static void yearsBounds() {
        ThornHedge x = Checks.made("9", "41");
        for (int seed : new int[] {0, 1, -1, Integer.MIN_VALUE, Integer.MAX_VALUE}) {
            for (int n : new int[] {1, 60}) {
                long[] due = drawnYears(seed, n, 9, false);
                c.due("42: years(" + seed + ", " + n + ")", x.years(seed, n), due[0]);
                c.row("42: years(" + seed + ", " + n + ")", x, due[1], due[2]);
            }
        }
        ThornHedge gate = Checks.made("G", "41");
        for (int seed = 0; seed < 40; seed++) {
            long[] due = drawnYears(seed, 60, 0, true);
            c.due("42: of a GATE, years(" + seed + ", 60)", gate.years(seed, 60), due[0]);
            c.row("42: not at a GATE, years(" + seed + ", 60)", gate, 0, due[2]);
        }
        c.due("42: WEEK stays", x.count(5), 0);
    }

    /** One mile in fair weather; of earth one load a WEEK while the men times 2 are less than 15. */
    private static long[] drawnYears(int seed, int n, int hedge, boolean gate) {
        int r = seed, men = 0, loads = 0;
        for (int i = 0; i < n; i++) {
            r = r * 1103515245 + 12345;
            int act = (int) (((r & 0xffffffffL) / 65536) % 5);
            if (act <= 1) {
                if (2 * men < 15) loads++;
                continue;
            }
            r = r * 1103515245 + 12345;
            if (act == 2) men = Math.min(9, men + 1);
            if (act == 3) men = Math.max(0, men - 1);
            if (act == 4 && !gate) hedge = Math.min(9, hedge + 2);
        }
        return new long[] {loads, hedge, men};
    }

    /** The first DRAW of seeds tells what is done; men are 0 at least and 9 at most, a HEDGE 9. */
    private static void yearsDraws() {
        for (int men = 0; men <= 9; men += 9) {
            for (int hedge = 0; hedge <= 9; hedge++) {
                for (int seed = 0; seed < 20; seed++) {
                    ThornHedge x = Checks.made("" + hedge, "");
                    x.guard(0, men);
                    int r = seed * 1103515245 + 12345;
                    int act = (r >>> 16) % 5;
                    x.years(seed, 1);
                    int then = act == 2 ? Math.min(9, men + 1) : act == 3 ? Math.max(0, men - 1) : men;
                    c.row("42: act " + act + " of HEDGE " + hedge + ", MEN " + men, x, act == 4 ? Math.min(9, hedge + 2) : hedge, then);
                }
            }
        }
    }
}
