/** Promises 14 to 26, 43 and 44: acts, weeks, what comes over, what is undone and kept. */
public final class WeeksTest {
    private static final Checks c = new Checks("WeeksTest");

    public static void main(String[] args) {
        promise14();
        promise15();
        promise16();
        promise17();
        promise18();
        weekByWeek();
        promise19Faults();
        promise19();
        promise20();
        promise21();
        promise22();
        promise23();
        promise23Bounds();
        promise24();
        promise25();
        promise26();
        promise43And44();
        c.end();
    }

    private static void promise14() {
        ThornHedge x = new ThornHedge();
        int[][] refused = {{0, 100}, {0, -1}, {1, 100}, {1, -1}, {2, 5}, {-1, 5}, {0, Integer.MAX_VALUE}};
        for (int[] a : refused) c.due("14: price(" + a[0] + ", " + a[1] + ")", x.price(a[0], a[1]), -1);
        c.due("14: nothing changed", x.count(3) + x.count(4) + x.count(12), 25);
        c.due("14: cheap was", x.price(0, 99), 5);
        c.due("14: dear was", x.price(1, 0), 20);
        c.due("14: cheap", x.count(3), 99);
        c.due("14: dear", x.count(4), 0);
        c.due("14: cheap was then", x.price(0, 0), 99);
        c.due("14: dear was then", x.price(1, 99), 0);
    }

    private static void promise15() {
        ThornHedge x = Checks.made("5G", "");
        int[][] refused = {{0, 10}, {0, -1}, {-1, 1}, {2, 1}, {Integer.MIN_VALUE, 1}};
        for (int[] a : refused) c.due("15: guard(" + a[0] + ", " + a[1] + ")", x.guard(a[0], a[1]), -1);
        c.due("15: nothing changed", x.count(7) + x.count(12), 0);
        c.due("15: nine", x.guard(0, 9), 9);
        c.due("15: at a gate, too", x.guard(1, 2), 11);
        c.due("15: fewer", x.guard(0, 0), 2);
        c.due("15: there", x.mile(1, 2), 2);
        c.due("15: not there", x.mile(0, 2), 0);
        c.due("15: none left", x.guard(1, 0), 0);
    }

    private static void promise16() {
        ThornHedge x = Checks.made("5G", "");
        int[][] refused = {{0, 0}, {0, 10}, {0, -3}, {2, 1}, {-1, 1}, {1, 0}};
        for (int[] a : refused) c.due("16: plant(" + a[0] + ", " + a[1] + ")", x.plant(a[0], a[1]), -1);
        c.due("16: a gate", x.plant(1, 3), -2);
        c.due("16: nothing changed", x.count(9), 5);
        c.due("16: nothing to undo", x.count(12), 0);
        c.due("16: three more", x.plant(0, 3), 8);
        c.due("16: nine at most", x.plant(0, 9), 9);
        c.due("16: there", x.mile(0, 0), 9);
    }

    private static void promise17() {
        ThornHedge x = Checks.made("56", "");
        c.due("17: none such", x.gate(2), -1);
        c.due("17: none such below", x.gate(-1), -1);
        c.due("17: made", x.gate(1), 1);
        c.due("17: its hedge is gone", x.mile(1, 0), 0);
        c.due("17: a second", x.gate(0), 2);
        c.due("17: bits", x.count(8), 3);
        c.due("17: taken away", x.gate(1), 1);
        c.due("17: no gate", x.mile(1, 1), 0);
        c.due("17: the hedge stays gone", x.mile(1, 0), 0);
        Checks.text(x, "r").weather();
        x.weeks(3);
        c.due("17: rain", x.mile(0, 0), 3);
        c.due("17: taken away, what has grown stays", x.gate(0), 0);
        c.due("17: grown", x.mile(0, 0), 3);
        c.due("17: made, it is gone", x.gate(0), 1);
        c.due("17: gone", x.mile(0, 0), 0);
    }

    private static void promise18() {
        ThornHedge x = Checks.made("52G", "03;14;22;35;46");
        for (int n : new int[] {-1, 61, Integer.MIN_VALUE, Integer.MAX_VALUE}) c.due("18: weeks(" + n + ")", x.weeks(n), -1);
        c.due("18: nothing told", x.count(13), 0);
        c.due("18: no weeks", x.weeks(0), 0);
        c.row("18: no weeks", x, 0, 7);
        c.due("18: they can be undone", x.count(12), 1);
        c.due("18: one", x.weeks(1), 18);
        c.row("18: one", x, 27, 5);
        c.due("18: sixty", x.weeks(60), 60 * 18);
        c.row("18: sixty", x, 27, 5);
        c.due("18: over", x.count(6), 61 * 18);
        c.due("18: week", x.count(5), 61);
        ThornHedge some = Checks.made("2", "01;29");
        Checks.text(some, "ffr").weather();
        // baskets 15 against 10, then 10, 10, 15, 15, 15; flood in the weeks 2 and 5
        c.due("18: who went in some", some.weeks(3), 12);
        c.row("18: who went in some", some, 3, 3);
        c.due("18: not any more", some.weeks(3), 9);
        c.row("18: not any more", some, 2, 4);
    }

    /** What one week does, by each weather. */
    private static void weekByWeek() {
        ThornHedge x = Checks.made("91G05", "");
        Checks.text(x, "dradf").weather();
        int[][] due = {{8, 0, 0, 0, 4}, {9, 1, 1, 1, 5}, {9, 1, 0, 1, 5}, {8, 0, 0, 0, 4}, {8, 0, 0, 0, 4}, {7, 0, 0, 0, 3}, {8, 1, 1, 1, 4}, {8, 1, 0, 1, 4}};
        for (int w = 0; w < due.length; w++) {
            x.weeks(1);
            for (int m = 0; m < 5; m++) c.due("18: WEEK " + w + ", mile " + m, x.mile(m, 0), due[w][m]);
        }
        ThornHedge nine = Checks.made("99", "");
        Checks.text(nine, "r").weather();
        nine.weeks(2);
        c.due("18: WEEK, nine at most", nine.count(9), 18);
        // each as all is then: the first camels open mile 0 for the baskets behind them
        ThornHedge y = Checks.made("3", "01;11;01");
        c.due("18: WEEK, the second baskets follow the camels", y.goes(), 6);
        y.weeks(1);
        c.due("18: WEEK, two less", y.mile(0, 0), 1);
        y.weeks(1);
        c.due("18: WEEK, 0 at least", y.mile(0, 0), 0);
    }

    private static void promise19Faults() {
        ThornHedge x = Checks.made("5G3", "");
        String sixty = Checks.times("w0", 30);
        String[] texts = {"x", "w", "wx", "w12", "m", "mm", "ma", "max", "pa0", "p", "pa", "g", "gm", "g1", "c", "c1", "c1x", "cx", "d5", "d5a", "w1 ",
            sixty + "w", sixty + "x", sixty.substring(2) + "c12", sixty.substring(2) + "c1", sixty.substring(2) + "cx1", "ga7", "pa10"};
        int[] due = {-1, -2, -2, -3, -2, -2, -3, -3, -3, -2, -3, -2, -2, -2, -2, -3, -3, -2, -3, -3, -3,
            -61, -61, -61, -61, -60, -3, -4};
        for (int i = 0; i < texts.length; i++) {
            c.due("19: log '" + texts[i] + "'", Checks.text(x, texts[i]).log(), due[i]);
            c.due("19: the text is empty then", x.count(14), 0);
        }
        c.due("19: nothing was done", x.count(5) + x.count(7) + x.count(12) + x.count(13), 0);
        c.due("19: sixty signs", Checks.text(x, sixty).log(), 30);
    }

    private static void promise19() {
        ThornHedge x = Checks.made("52G", "03;14;22;35;46");
        c.due("19: nothing", Checks.text(x, "").log(), 0);
        c.row("19: nothing", x, 0, 0);
        c.due("19: nothing to undo", x.count(12), 0);
        c.due("19: all of it", Checks.text(x, "mb4w1gapb9c07d33").log(), 6);
        c.row("19: all of it", x, 0, 18);
        int[] due = {3, 5, 0, 7, 33, 1, 18, 4, 5, 9, 1, 0, 1, 2, 0};
        for (int what = 0; what < due.length; what++) c.due("19: count(" + what + ")", x.count(what), due[what]);
        c.due("19: thorns", x.mile(1, 0), 9);
        c.due("19: undone as one", x.undo(), 0);
        c.due("19: as it was", x.count(9) + x.count(7) + x.count(6) + x.count(5) + x.count(3), 12);
        c.due("19: till a mile that is none", Checks.text(x, "ma1md1ma2").log(), 1);
        c.row("19: till a mile that is none", x, 1, 0);
        c.due("19: what was ahead of it is done", x.mile(0, 2), 1);
        c.due("19: till a gate", Checks.text(x, "w2pc1").log(), 1);
        c.row("19: till a gate", x, 1, 36);
        c.due("19: the first is refused", Checks.text(x, "gl").log(), 0);
        c.row("19: the first is refused", x, 1, 36);
        c.due("19: it can't be undone", x.count(12), 2);
        c.due("19: mile l", Checks.text(Checks.made("000000000000", ""), "glml9").log(), 2);
    }

    private static void promise20() {
        ThornHedge x = Checks.made("52G", "14");
        c.due("20: none", x.undo(), -1);
        x.price(0, 4);
        x.price(1, 40);
        x.guard(1, 3);
        x.plant(0, 2);
        x.gate(2);
        x.weeks(5);
        Checks.text(x, "w1ga").log();
        c.due("20: seven", x.count(12), 7);
        c.due("20: log", x.undo(), 6);
        c.due("20: gates as ahead of it", x.count(8), 0);
        c.due("20: week as ahead of it", x.count(5), 5);
        c.due("20: weeks", x.undo(), 5);
        c.due("20: week", x.count(5), 0);
        c.due("20: over", x.count(6), 0);
        c.due("20: hedges", x.count(9), 9);
        c.due("20: gate", x.undo(), 4);
        c.due("20: gates", x.count(8), 4);
        c.due("20: plant", x.undo(), 3);
        c.due("20: hedge", x.mile(0, 0), 5);
        c.due("20: guard", x.undo(), 2);
        c.due("20: men", x.count(7), 0);
        c.due("20: dear", x.undo(), 1);
        c.due("20: dear is", x.count(4), 20);
        c.due("20: cheap", x.undo(), 0);
        c.due("20: cheap is", x.count(3), 5);
        c.due("20: no more", x.undo(), -1);

        for (int i = 1; i <= 20; i++) x.price(1, i);
        c.due("20: fifteen are kept", x.count(12), 15);
        for (int i = 14; i >= 0; i--) {
            c.due("20: left", x.undo(), i);
            c.due("20: dear then", x.count(4), 5 + i);
        }
        c.due("20: none is left", x.undo(), -1);

        x.guard(0, 1);
        x.sheet(2, 2, 1, 1);
        x.undo();
        c.due("20: hedges are as ahead of it, a sheet come between", x.mile(0, 0), 5);
        x.price(1, 30);
        x.keep(0);
        x.again(1);
        c.due("20: a refused again() forgets nothing", x.count(12), 1);
        x.again(0);
        c.due("20: again() forgets", x.undo(), -1);
        x.weeks(0);
        x.guard(0, 0);
        c.due("20: acts that change nothing were done", x.count(12), 2);
        x.goes();
        x.undo();
        c.due("20: the row stays", x.count(13), 2);
    }

    private static void promise21() {
        ThornHedge x = Checks.made("52G", "03;14;22;35;46");
        c.due("21: who goes", x.goes(), 27);
        c.row("21: who goes", x, 18, 1);
        c.due("21: nothing changes", x.count(9) + x.count(5) + x.count(6), 7);
        x.guard(1, 4);
        c.due("21: over mile 0", x.goes(), 27);
        c.row("21: over mile 0", x, 18, 0);
        x.price(1, 5);
        c.due("21: nobody", x.goes(), 0);
        c.row("21: nobody", x, 0, -1);
        ThornHedge earth = Checks.made("9", "49");
        c.due("21: earth", earth.goes(), 1);
        c.row("21: of earth nothing goes over a mile", earth, 9, -1);
        ThornHedge even = Checks.made("0G", "35;05");
        c.due("21: both", even.goes(), 3);
        c.row("21: of equal ones the first", even, 10, 0);
    }

    private static void promise22() {
        ThornHedge x = Checks.made("2", "01;29");
        Checks.text(x, "ffr").weather();
        for (int n : new int[] {-1, 100, Integer.MIN_VALUE}) c.due("22: ahead(" + n + ")", x.ahead(n), -1);
        c.due("22: nothing told", x.count(13), 0);
        c.due("22: none", x.ahead(0), 0);
        c.row("22: none", x, 2, 0);
        c.due("22: six", x.ahead(6), 21);
        c.row("22: six, nothing came in two", x, 4, 2);
        c.due("22: ninety-nine", x.ahead(99), 3 + 33 * 9);
        c.row("22: ninety-nine", x, 9, 99 - 3 - 32);
        c.due("22: nothing changes", x.count(5) + x.count(6) + x.count(12), 0);
    }

    private static void promise23() {
        ThornHedge x = Checks.made("9", "01");
        Checks.text(x, "d").weather();
        // 15 against 45, 40, .. : less at hedge 2, in week 7
        c.due("23: in the seventh", x.holds(), 7);
        c.row("23: who", x, 1);
        x.weeks(7);
        c.due("23: now", x.holds(), 0);
        c.due("23: nothing changes", x.count(5), 7);
        x.price(1, 5);
        x.goes();
        c.due("23: never", x.holds(), -2);
        c.row("23: never, nothing is told", x, 0, -1);
        c.due("23: nobody", new ThornHedge().holds(), -2);
        ThornHedge late = Checks.made("0", "01");
        Checks.text(late, "99*(w<2)+15").rule();
        Checks.text(late, Checks.times("f", 19) + "r").weather();
        late.price(1, 21);
        c.due("23: by the rule, in week 2", late.holds(), 2);
        // flood alone, in the last of twenty weeks
        ThornHedge flood = Checks.made("0", "21");
        Checks.text(flood, Checks.times("f", 19) + "r").weather();
        c.due("23: by rain, in week 19", flood.holds(), 19);
        flood.weeks(20);
        c.due("23: the next", flood.holds(), 19);
    }

    /** Ants eat the one mile that matters in just one of 209 weeks; baskets come in the next. */
    private static ThornHedge antsIn(int week) {
        ThornHedge x = Checks.made("99999999999", "01");
        for (int m = 0; m < 11; m++) if (m != week % 11) x.guard(m, 9);
        Checks.text(x, Checks.times("f", week % 19) + "a" + Checks.times("f", 18 - week % 19)).weather();
        return x;
    }

    private static void promise23Bounds() {
        c.due("23: in week 98", antsIn(97).holds(), 98);
        c.due("23: not in 99", antsIn(98).holds(), -2);
        ThornHedge x = antsIn(98);
        c.due("22: not in 99 weeks", x.ahead(99), 0);
        // six other miles are eaten, in the weeks 3, 22, .. 98
        c.row("22: not in 99 weeks", x, 45, 99);
    }

    private static void promise24() {
        ThornHedge x = Checks.made("52G", "03;14;22");
        // 3 times more than 10, 4 times more than 5: 8 and 6
        c.due("24: the least of bounds", x.keeps(), 6);
        x.price(0, 0);
        c.due("24: by cheap", x.keeps(), 1);
        x.price(0, 99);
        c.due("24: nothing at any", x.keeps(), 99);
        c.due("24: nobody", new ThornHedge().keeps(), 99);
        x.price(0, 5);
        Checks.text(x, "0").rule();
        c.due("24: without danger", x.keeps(), 5);
        x.price(0, 0);
        c.due("24: 0 at least", x.keeps(), 0);
        c.due("24: nothing changes", x.count(4), 20);
    }

    private static void promise25() {
        ThornHedge x = Checks.made("52G", "03;14;22;35;46");
        x.guard(1, 4);
        x.guard(0, 9);
        c.due("25: without mouths", x.tax(), 0);
        c.row("25: without mouths", x, 0, 0);
        Checks.text(x, "10,8;5,30;3,99").mouths();
        c.due("25: the best", x.tax(), 8);
        c.row("25: three by 18 less 5", x, 39, 0);
        c.due("25: nothing changes", x.count(4), 20);
        ThornHedge alone = Checks.text(new ThornHedge(), "1,6;2,5;1,7");
        alone.mouths();
        // at 6: 1 by 2, at 7: 2 by 1
        c.due("25: of equal ones the least", alone.tax(), 6);
        c.row("25: of equal ones the least", alone, 2, 2);
        alone.price(0, 6);
        c.due("25: what is paid more than cheap", alone.tax(), 7);
        c.row("25: what is paid more than cheap", alone, 1, 3);
        alone.price(0, 50);
        c.due("25: nobody pays so much", alone.tax(), 0);
        c.row("25: nobody pays so much", alone, 0, 0);
    }

    private static void promise26() {
        ThornHedge x = Checks.text(new ThornHedge(), "10,8;5,30;3,99;7,0");
        x.mouths();
        for (int v : new int[] {-1, 100, Integer.MAX_VALUE}) c.due("26: without(" + v + ")", x.without(v), -1);
        c.due("26: nothing told", x.count(13), 0);
        int[][] due = {{0, 0, 0, 0}, {1, 7, 8, 0}, {8, 7, 8, 0}, {9, 17, 9, 8}, {30, 17, 9, 8}, {31, 22, 11, 8}, {99, 22, 11, 8}};
        for (int[] d : due) {
            c.due("26: without(" + d[0] + ")", x.without(d[0]), d[1]);
            c.row("26: without(" + d[0] + ")", x, d[2], d[3]);
        }
        ThornHedge none = new ThornHedge();
        c.due("26: nobody", none.without(77), 0);
        c.row("26: nobody", none, 0, 77);
    }

    private static void promise43And44() {
        ThornHedge x = Checks.made("52G", "14");
        for (int i : new int[] {-1, 3, Integer.MIN_VALUE}) {
            c.due("43: keep(" + i + ")", x.keep(i), false);
            c.due("44: again(" + i + ")", x.again(i), false);
        }
        for (int i = 0; i < 3; i++) c.due("44: nothing kept", x.again(i), false);
        x.price(0, 4);
        x.price(1, 40);
        x.guard(1, 3);
        c.due("43: kept", x.keep(2), true);
        c.due("43: acts can be undone yet", x.count(12), 3);
        x.weeks(5);
        x.gate(0);
        c.due("43: kept, too", x.keep(0), true);
        x.price(0, 9);
        x.guard(1, 0);
        c.due("44: as it was", x.again(2), true);
        int[] due = {3, 1, 0, 4, 40, 0, 0, 3, 4, 7};
        for (int what = 0; what < due.length; what++) c.due("44: count(" + what + ")", x.count(what), due[what]);
        c.due("44: nothing to undo", x.undo(), -1);
        c.due("44: the other", x.again(0), true);
        // camels at mile 1 (30) or mile 0 (10, 5, ..): mile 0, five times
        int[] then = {3, 1, 0, 4, 40, 5, 20, 3, 5, 2};
        for (int what = 0; what < then.length; what++) c.due("44: the other, count(" + what + ")", x.count(what), then[what]);
        c.due("44: kept yet", x.again(0), true);
        x.guard(2, 9);
        c.due("43: anew under a number", x.keep(0), true);
        x.guard(2, 0);
        x.again(0);
        c.due("44: the later one", x.mile(2, 2), 9);
        c.due("44: never kept", x.again(1), false);
    }
}
