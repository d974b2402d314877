/** Promises 27 to 42: guards, thorns, rewards, chances, which it was, laws, rests, years. */
public final class QuestionsTest {
    private static final Checks c = new Checks("QuestionsTest");

    public static void main(String[] args) {
        promise27();
        promise28();
        promise29();
        promise30();
        promise31();
        promise32();
        promise33();
        promise34();
        promise35();
        promise36And37();
        promise38();
        promise39();
        promise40();
        promise41();
        promise42();
        c.end();
    }

    /** Dangers of 115 and 50, 100 and 45, none, 0, 26 against 45, 60, 30, 75, 90. */
    private static ThornHedge guarded() {
        ThornHedge x = Checks.made("52G", "03;14;22;35;46");
        x.guard(1, 4);
        x.guard(0, 9);
        return x;
    }

    private static void promise27() {
        ThornHedge x = guarded();
        for (int k : new int[] {-1, 5, Integer.MAX_VALUE}) c.due("27: beats(" + k + ")", x.beats(k), -1);
        c.due("27: nothing told", x.count(13), 0);
        c.due("27: all gone", x.beats(0), 18);
        c.row("27: all gone", x, 0, 0, 0);
        c.due("27: one helps nothing", x.beats(1), 18);
        c.row("27: of as good ones the least", x, 0, 0, 1);
        c.due("27: nothing changes", x.count(7), 13);
        ThornHedge one = Checks.made("0", "01");
        c.due("27: one man", one.beats(1), 1);
        c.row("27: one man", one, 1);
        c.due("27: two men", one.beats(2), 0);
        c.row("27: two men", one, 2);
        ThornHedge two = Checks.made("00", "01");
        c.due("27: three men do not", two.beats(3), 1);
        c.row("27: three men do not", two, 0, 3);
        c.due("27: four men do", two.beats(4), 0);
        c.row("27: four men do", two, 2, 2);
        ThornHedge wide = Checks.made("GGGG0GGGGG0G", "01");
        c.due("27: wide", wide.beats(4), 0);
        c.row("27: wide", wide, 0, 0, 0, 0, 2, 0, 0, 0, 0, 0, 2, 0);
        Checks.text(wide, "n*4").rule();
        c.due("27: spread out", wide.beats(4), 0);
        c.row("27: spread out", wide, 0, 0, 0, 0, 0, 0, 0, 1, 1, 1, 0, 1);
    }

    private static void promise28() {
        ThornHedge x = guarded();
        x.goes();
        for (int n : new int[] {0, 21, -1, Integer.MIN_VALUE}) c.due("28: thorns(" + n + ")", x.thorns(n), -1);
        c.row("28: nothing told", x, 15, 2);
        c.due("28: where", x.thorns(1), 1);
        c.row("28: where", x, 11, 15);
        c.due("28: nothing changes", x.count(9), 7);
        ThornHedge same = Checks.made("00", "01");
        c.due("28: of equal ones the first", same.thorns(20), 0);
        c.row("28: of equal ones the first", same, 20, 20);
        ThornHedge open = Checks.made("G90", "01");
        c.due("28: the open one", open.thorns(5), 2);
        c.row("28: the open one", open, 0, 5);
        Checks.text(open, "d").weather();
        // 45 against 15: seven dry weeks bring it to 2
        c.due("28: in dry weeks", open.thorns(10), 2);
        c.row("28: in dry weeks", open, 3, 10);
        ThornHedge gates = Checks.made("GG", "35");
        gates.goes();
        c.due("28: gates alone", gates.thorns(1), -2);
        c.row("28: gates alone, nothing told", gates, 5, 0);
        c.due("28: gates alone, another n", gates.thorns(0), -1);
    }

    private static void promise29() {
        ThornHedge x = guarded();
        c.due("29: one", x.walls(), 1);
        c.row("29: one", x, 2);
        c.due("29: nothing changes", x.count(8), 4);
        ThornHedge none = new ThornHedge();
        c.due("29: nobody", none.walls(), 0);
        c.row("29: nobody", none, 0);
        ThornHedge others = Checks.made("0G", "39;49");
        c.due("29: bread and earth aside", others.walls(), 0);
        ThornHedge all = Checks.made("0G0", "01");
        c.due("29: all that are none", all.walls(), 2);
        c.row("29: all that are none", all, 5);
        ThornHedge flood = Checks.made("9999", "21");
        c.due("29: no rain", flood.walls(), 0);
        Checks.text(flood, "r").weather();
        flood.guard(2, 2);
        c.due("29: rain", flood.walls(), 3);
        c.row("29: rain", flood, 11);
        ThornHedge even = Checks.made("32", "01");
        c.due("29: just where it is worth it", even.walls(), 1);
        c.row("29: just where it is worth it", even, 2);
    }

    private static void promise30() {
        ThornHedge x = Checks.made("000000000000", "");
        for (int r : new int[] {-1, 12, Integer.MIN_VALUE}) c.due("30: posts(" + r + ")", x.posts(r), -1);
        int[][] due = {{12, 0, 12, 4095}, {12, 1, 4, 1 << 1 | 1 << 4 | 1 << 7 | 1 << 10}, {12, 2, 3, 1 | 1 << 4 | 1 << 9}, {12, 11, 1, 1}, {12, 6, 1, 1 << 5},
            {12, 5, 2, 1 | 1 << 6}, {1, 0, 1, 1}, {1, 11, 1, 1}, {3, 1, 1, 2}, {5, 1, 2, 9}, {2, 1, 1, 1}, {4, 0, 4, 15}};
        for (int[] d : due) {
            Checks.text(x, Checks.times("0", d[0])).line();
            c.due("30: " + d[0] + " miles, posts(" + d[1] + ")", x.posts(d[1]), d[2]);
            c.row("30: " + d[0] + " miles, posts(" + d[1] + ")", x, d[3]);
        }
    }

    private static void promise31() {
        ThornHedge x = Checks.made("0000", "");
        int[][] refused = {{0, 0}, {10, 0}, {1, -1}, {1, 61}, {-1, 5}, {Integer.MAX_VALUE, 5}};
        for (int[] a : refused) c.due("31: rounds(" + a[0] + ", " + a[1] + ")", x.rounds(a[0], a[1]), -1);
        int[][] due = {{4, 1, 0, 14, 3}, {4, 1, 3, 7, 3}, {4, 1, 4, 11, 3}, {4, 1, 6, 14, 3}, {4, 1, 7, 13, 3}, {4, 1, 60, 14, 3},
            {4, 2, 0, 10, 2}, {4, 2, 1, 5, 2}, {4, 2, 2, 11, 3}, {4, 3, 1, 5, 2}, {12, 9, 0, 2730, 6}, {12, 9, 1, 1365, 6}, {5, 3, 1, 21, 3},
            {1, 1, 5, 0, 0}, {1, 9, 60, 0, 0}, {2, 1, 1, 1, 1}, {2, 2, 1, 1, 1}, {3, 2, 1, 5, 2}, {12, 1, 12, (1 << 12) - 1 - (1 << 10), 11}};
        for (int[] d : due) {
            Checks.text(x, Checks.times("0", d[0])).line();
            c.due("31: " + d[0] + " miles, rounds(" + d[1] + ", " + d[2] + ")", x.rounds(d[1], d[2]), d[3]);
            c.row("31: " + d[0] + " miles, rounds(" + d[1] + ", " + d[2] + ")", x, d[4]);
        }
    }

    private static void promise32() {
        ThornHedge x = guarded();
        int[] due = {0, 15, 0, 75, 64};
        for (int i = 0; i < 5; i++) c.due("32: reward(" + i + ")", x.reward(i), due[i]);
        for (int i : new int[] {-1, 5, Integer.MIN_VALUE}) c.due("32: reward(" + i + ")", x.reward(i), -1);
        x.price(0, 0);
        x.price(1, 99);
        c.due("32: a great one", x.reward(3), 495);
        x.price(0, 99);
        x.price(1, 0);
        c.due("32: dear salt cheaper", x.reward(3), 0);
        ThornHedge most = Checks.made("0", "09");
        most.price(0, 0);
        most.price(1, 99);
        c.due("32: the greatest", most.reward(0), 891);
    }

    private static void promise33() {
        ThornHedge x = guarded();
        for (int v : new int[] {-1, 1000, Integer.MIN_VALUE}) c.due("33: pays(" + v + ")", x.pays(v), -1);
        int[][] due = {{0, 15, 0, 0}, {14, 15, 0, 0}, {15, 11, 2, 15}, {64, 9, 16, 64}, {78, 9, 16, 64}, {79, 5, 18, 79}, {90, 5, 18, 79}, {139, 4, 24, 139}, {154, 0, 26, 154}, {999, 0, 26, 154}};
        for (int[] d : due) {
            c.due("33: pays(" + d[0] + ")", x.pays(d[0]), d[1]);
            c.row("33: pays(" + d[0] + ")", x, d[2], d[3]);
        }
        c.due("33: nothing changes", x.count(9) + x.count(12), 9);
        ThornHedge even = Checks.made("00", "01;01");
        c.due("33: either", even.pays(29), 1);
        c.row("33: of as good ones the least", even, 1, 15);
        // 15 against 15, till the camels have been
        ThornHedge behind = Checks.made("3", "11;01");
        c.due("33: paid nothing, it stays whatever comes", behind.pays(0), 1);
        c.row("33: paid nothing", behind, 2, 0);
        c.due("33: without camels it does not go", behind.pays(10), 0);
        c.row("33: without camels", behind, 1, 10);
        ThornHedge none = new ThornHedge();
        c.due("33: nobody", none.pays(5), 0);
        c.row("33: nobody", none, 0, 0);
    }

    private static void promise34() {
        ThornHedge x = new ThornHedge();
        int[][] refused = {{0, 0, 1}, {11, 0, 1}, {1, -1, 1}, {1, 11, 1}, {1, 1, -1}, {1, 1, 11}};
        for (int[] a : refused) c.due("34: caught(" + a[0] + ", " + a[1] + ", " + a[2] + ")", x.caught(a[0], a[1], a[2]), -1);
        c.due("34: nothing told", x.count(13), 0);
        long[][] due = {{2, 1, 5, 3, 4}, {2, 3, 5, 0, 1}, {1, 0, 0, 1, 1}, {1, 1, 0, 0, 1}, {10, 10, 1, 1, 10000000000L}, {10, 0, 5, 1, 1}, {3, 2, 10, 1, 1},
            {3, 2, 3, 27, 125}, {10, 10, 10, 1, 1}, {10, 1, 9, 9999999999L, 10000000000L}, {10, 5, 5, 319, 512}, {4, 4, 2, 1, 625}, {1, 10, 10, 0, 1}};
        for (long[] d : due) {
            String what = "34: caught(" + d[0] + ", " + d[1] + ", " + d[2] + ")";
            c.due(what, x.caught((int) d[0], (int) d[1], (int) d[2]), 0);
            c.row(what, x, d[3], d[4]);
        }
    }

    private static void promise35() {
        ThornHedge x = new ThornHedge();
        int[][] due = {{11, 1, -1}, {-1, 1, -1}, {1, -1, -1}, {1, 101, -1}, {5, 25, 2}, {5, 26, 1}, {0, 100, 12}, {10, 0, 12}, {10, 1, 0}, {1, 100, 0},
            {1, 90, 1}, {1, 91, 0}, {1, 81, 2}, {1, 82, 1}, {1, 28, 12}, {1, 29, 11}, {9, 10, 1}, {9, 1, 2}, {7, 0, 12}};
        for (int[] d : due) c.due("35: lasts(" + d[0] + ", " + d[1] + ")", x.lasts(d[0], d[1]), d[2]);
    }

    private static void promise36And37() {
        ThornHedge x = new ThornHedge();
        int[][] refused = {{0, 5}, {0, -1}, {1, 0}, {1, 10}, {2, 2}, {2, -1}, {3, 0}, {-1, 0}, {Integer.MAX_VALUE, 1}};
        for (int[] a : refused) c.due("36: heard(" + a[0] + ", " + a[1] + ")", x.heard(a[0], a[1]), -1);
        c.due("37: nothing was heard", x.forget(), 0);
        int[][] taken = {{0, 0}, {0, 4}, {1, 1}, {1, 9}, {2, 0}, {2, 1}};
        for (int i = 0; i < 12; i++) c.due("36: heard, " + i, x.heard(taken[i % 6][0], taken[i % 6][1]), i + 1);
        c.due("36: twelve are there", x.heard(0, 0), -1);
        c.due("36: twelve stay", x.count(11), 12);
        c.due("37: twelve", x.forget(), 12);
        c.due("37: none now", x.count(11), 0);
        c.due("36: the first again", x.heard(0, 0), 1);
    }

    private static void promise38() {
        ThornHedge x = guarded();
        c.due("38: nothing heard, all fit", x.fits(), 31);
        c.row("38: nothing heard", x, 5, 20);
        x.heard(2, 1);
        c.due("38: such as go", x.fits(), 26);
        c.row("38: such as go", x, 3, 15);
        x.heard(1, 5);
        c.due("38: and have 5 or more", x.fits(), 24);
        c.row("38: and have 5 or more", x, 2, 11);
        x.heard(0, 3);
        c.due("38: and are of bread", x.fits(), 8);
        c.row("38: and are of bread", x, 1, 5);
        x.heard(2, 0);
        c.due("38: and do not go", x.fits(), 0);
        c.row("38: and do not go", x, 0, 0);
        x.forget();
        x.heard(2, 0);
        c.due("38: such as do not go", x.fits(), 5);
        x.price(1, 99);
        c.due("38: as all is now", x.fits(), 4);
        Checks.text(x, "01").carriers();
        c.due("38: the newest, too", x.fits(), 4);
        x.price(1, 0);
        c.due("38: nobody goes", x.fits(), 63);
    }

    private static void promise39() {
        ThornHedge x = guarded();
        x.heard(2, 1);
        c.due("39: of 4, 5, 6", x.ask(), 5);
        c.row("39: of 4, 5, 6", x, 2);
        x.forget();
        c.due("39: of 2 to 6", x.ask(), 4);
        c.row("39: of 2 to 6", x, 3);
        x.heard(1, 6);
        c.due("39: of one", x.ask(), 1);
        c.row("39: of one", x, 1);
        x.heard(0, 0);
        c.due("39: none fits", x.ask(), -2);
        c.row("39: none fits, nothing is told", x, 1);
        ThornHedge same = Checks.made("0", "03;03;03;09");
        c.due("39: of equal ones the least", same.ask(), 4);
        c.row("39: of equal ones the least", same, 3);
        ThornHedge nines = Checks.made("0", "09;09");
        c.due("39: all alike", nines.ask(), 1);
        c.row("39: all alike", nines, 2);
    }

    private static void promise40() {
        ThornHedge x = Checks.made("2", "01");
        String forty = Checks.times("h+", 19) + "12";
        String[] texts = {"z", "h+", forty + "3", "(((((", "h<g<l"};
        int[] due = {-10000, -10002, -10040, -10004, -10003};
        for (int i = 0; i < texts.length; i++) {
            c.due("40: law '" + texts[i] + "'", Checks.text(x, texts[i]).law(), due[i]);
            c.due("40: the text is empty then", x.count(14), 0);
        }
        c.due("40: nothing told", x.count(13), 0);
        c.due("40: a stern one", Checks.text(x, "99").law(), -10);
        c.row("40: a stern one", x, 0, 10);
        c.due("40: the rule stays", x.danger(0, 0), 10);
        c.due("40: none", Checks.text(x, "").law(), 0);
        c.row("40: none", x, 10, 10);
        c.due("40: of weeks", Checks.text(x, "w*4").law(), -4);
        c.row("40: of weeks", x, 6, 10);
        c.due("40: nothing changes", x.count(5) + x.count(6) + x.count(12), 0);
        Checks.text(x, "99").rule();
        c.due("40: the usual one", Checks.text(x, "").law(), 10);
        c.row("40: the usual one", x, 10, 0);
        c.due("40: the stern rule stays", x.danger(0, 0), 99);
    }

    private static void promise41() {
        ThornHedge x = new ThornHedge();
        int[][] refused = {{21, 0}, {-1, 0}, {0, 10}, {0, -1}};
        for (int[] a : refused) c.due("41: rests(" + a[0] + ", " + a[1] + ")", x.rests(a[0], a[1]), -1);
        c.due("41: nothing told", x.count(13), 0);
        int[][] due = {{0, 0, 10, 0, 0}, {20, 0, 10, 0, 0}, {20, 5, 5, 5, 5}, {5, 9, 35, 5, 0}};
        for (int[] d : due) {
            c.due("41: rests(" + d[0] + ", " + d[1] + ")", x.rests(d[0], d[1]), d[2]);
            c.row("41: rests(" + d[0] + ", " + d[1] + ")", x, d[3], d[4]);
        }
    }

    private static void promise42() {
        ThornHedge x = Checks.made("52G", "03;14;22;35;46");
        Checks.text(x, "frda").weather();
        for (int n : new int[] {0, 61, -1, Integer.MIN_VALUE}) c.due("42: years(1, " + n + ")", x.years(1, n), -1);
        c.due("42: nothing told", x.count(13), 0);
        int[][] due = {{1, 1, 0, 7, 0}, {1, 5, 18, 7, 0}, {1, 60, 462, 4, 2}, {-7, 60, 408, 5, 6}, {Integer.MAX_VALUE, 60, 530, 6, 10},
            {Integer.MIN_VALUE, 33, 166, 2, 3}, {0, 12, 112, 7, 1}};
        for (int[] d : due) {
            c.due("42: years(" + d[0] + ", " + d[1] + ")", x.years(d[0], d[1]), d[2]);
            c.row("42: years(" + d[0] + ", " + d[1] + ")", x, d[3], d[4]);
        }
        c.due("42: nothing changes", x.count(5) + x.count(6) + x.count(7) + x.count(9) + x.count(12), 7);
    }
}
