/** The boundary cases of WEEKS and of promises 9 to 20 and 43 to 46, each sentence by itself. */
public final class ActBoundsTest {
    private static final Checks c = new Checks("ActBoundsTest");
    private static final Twins.Maker[] MAKERS = {ThornHedge::new, Twins::some, Twins::full};

    public static void main(String[] args) {
        mileIsNone();
        carrierIsNone();
        mouthIsNone();
        goesOnlyForMore();
        leastDanger();
        dangerIsNone();
        dangerByKind();
        sheetRefused();
        sheetEntries();
        sheetMiles();
        priceBounds();
        guardBounds();
        plantBounds();
        plantAtGate();
        gateBounds();
        weeksBounds();
        weekCamels();
        weekDry();
        weekRain();
        weekAnts();
        logIsRefused();
        logDigits();
        logEmpty();
        undoNone();
        undoFifteen();
        undoSuchAsWereDone();
        undoEachAct();
        undoLogAsOne();
        undoForgotten();
        keepBounds();
        againNothingKept();
        countBounds();
        rowBounds();
        c.end();
    }

    private static void thrown(String what, Twins.Maker maker, Twins.Asked asked) {
        c.refused(what, maker, asked, Twins.THROWN);
    }

    // ---- promises 9 to 11

    private static void mileIsNone() {
        for (Twins.Maker maker : MAKERS) {
            int miles = maker.make().count(0);
            for (int what = 0; what <= 2; what++) {
                int w = what;
                c.due("9: the first of " + miles + " miles, what " + w, maker.make().mile(0, w) >= 0, true);
                c.due("9: the last of " + miles + " miles, what " + w, maker.make().mile(miles - 1, w) >= 0, true);
                for (int m : Twins.outside(0, miles - 1)) thrown("9: mile(" + m + ", " + w + ")", maker, x -> x.mile(m, w));
            }
            for (int w : Twins.outside(0, 2)) thrown("9: another what, mile(0, " + w + ")", maker, x -> x.mile(0, w));
        }
        ThornHedge x = Checks.made("09G", "");
        x.guard(0, 9);
        c.due("9: HEDGE 0", x.mile(0, 0), 0);
        c.due("9: HEDGE 9", x.mile(1, 0), 9);
        c.due("9: 1 with a GATE", x.mile(2, 1), 1);
        c.due("9: 0 without", x.mile(0, 1), 0);
        c.due("9: MEN 9", x.mile(0, 2), 9);
        c.due("9: MEN 0", x.mile(1, 2), 0);
    }

    private static void carrierIsNone() {
        for (Twins.Maker maker : MAKERS) {
            int many = maker.make().count(1);
            for (int what = 0; what <= 3; what++) {
                int w = what;
                for (int i : Twins.outside(0, many - 1)) thrown("10: carrier(" + i + ", " + w + ")", maker, x -> x.carrier(i, w));
                if (many > 0) c.due("10: the last of " + many, Twins.answer(maker.make(), x -> x.carrier(many - 1, w)) >= -1, true);
            }
            for (int w : Twins.outside(0, 3)) thrown("10: another what, carrier(0, " + w + ")", maker, x -> x.carrier(0, w));
        }
    }

    private static void mouthIsNone() {
        for (Twins.Maker maker : MAKERS) {
            int many = maker.make().count(2);
            for (int what = 0; what <= 1; what++) {
                int w = what;
                for (int i : Twins.outside(0, many - 1)) thrown("11: mouth(" + i + ", " + w + ")", maker, x -> x.mouth(i, w));
                if (many > 0) c.due("11: the last of " + many, maker.make().mouth(many - 1, w), many == 8 || w == 1 ? 99 : 3);
            }
            for (int w : Twins.outside(0, 1)) thrown("11: another what, mouth(0, " + w + ")", maker, x -> x.mouth(0, w));
        }
    }

    private static void goesOnlyForMore() {
        for (int load = 1; load <= 9; load++) {
            for (int more = -1; more <= 1; more++) {
                ThornHedge x = Checks.made("0", "0" + load);
                Checks.text(x, "" + (load * 15 + more)).rule();
                c.due("10: LOAD " + load + " times 15 against " + more + " more", x.carrier(0, 2), more < 0 ? 0 : -1);
                c.due("10: the least DANGER is told in each case", x.carrier(0, 3), load * 15 + more);
            }
        }
        ThornHedge x = Checks.made("0", "09;49");
        Checks.text(x, "0").rule();
        x.price(1, 5);
        c.due("10: DEAR as CHEAP, 0 is not more than 0", x.carrier(0, 2), -1);
        c.due("10: nor of earth", x.carrier(1, 2), -1);
        x.price(1, 6);
        c.due("10: DEAR one more", x.carrier(0, 2), 0);
        c.due("10: DEAR one more, of earth", x.carrier(1, 2), 0);
        x.price(1, 0);
        x.price(0, 99);
        c.due("10: DEAR far below CHEAP", x.carrier(0, 2), -1);
        x.price(0, 0);
        x.price(1, 99);
        Checks.text(x, "890").rule();
        c.due("10: 891 is the most", x.carrier(0, 2), 0);
        Checks.text(x, "891").rule();
        c.due("10: 891 is not more", x.carrier(0, 2), -1);
    }

    private static void leastDanger() {
        ThornHedge x = Checks.made("555555555555", "09;49");
        c.due("10: of equal ones the first", x.carrier(0, 2), 0);
        for (int m = 0; m < 11; m++) {
            x.guard(m, 1);
            c.due("10: the least is at the next", x.carrier(0, 2), m + 1);
        }
        c.due("10: of earth, the first", x.carrier(1, 2), 0);
        x.guard(11, 1);
        c.due("10: all equal again", x.carrier(0, 2), 0);
        x.sheet(2, 12, 9, 0);
        x.plant(11, 1);
        Checks.text(x, "9-h").rule();
        c.due("10: DANGER 0 at all", x.carrier(0, 3), 0);
        for (int m = 0; m < 12; m++) x.gate(m);
        c.due("10: no MILE where it can, where", x.carrier(0, 2), -1);
        c.due("10: no MILE where it can, DANGER", x.carrier(0, 3), -1);
        c.due("10: of earth, at a GATE too", x.carrier(1, 3), 24);
        x.gate(11);
        c.due("10: the last MILE alone", x.carrier(0, 2), 11);
        ThornHedge near = Checks.made("210", "09");
        Checks.text(near, "h").rule();
        c.due("10: 0 is less than 1", near.carrier(0, 2), 2);
        c.due("10: 0 is the least", near.carrier(0, 3), 0);
        ThornHedge bread = Checks.made("00", "39");
        c.due("10: bread without a GATE, where", bread.carrier(0, 2), -1);
        c.due("10: bread without a GATE, DANGER", bread.carrier(0, 3), -1);
        ThornHedge flood = Checks.made("0", "29");
        c.due("10: flood without rain, where", flood.carrier(0, 2), -1);
        c.due("10: flood without rain, DANGER", flood.carrier(0, 3), -1);
        x.price(1, 5);
        c.due("10: it does not GO, where", x.carrier(0, 2), -1);
        c.due("10: it does not GO, but there is a least DANGER", x.carrier(0, 3), 9);
    }

    // ---- promise 12

    private static void dangerIsNone() {
        for (Twins.Maker maker : MAKERS) {
            int miles = maker.make().count(0), many = maker.make().count(1);
            for (int i : Twins.outside(0, many - 1)) c.refused("12: danger(" + i + ", 0)", maker, x -> x.danger(i, 0));
            for (int m : Twins.outside(0, miles - 1)) c.refused("12: danger(0, " + m + ")", maker, x -> x.danger(0, m));
            for (int i : Twins.FAR) for (int m : Twins.FAR) c.refused("12: danger(" + i + ", " + m + ")", maker, x -> x.danger(i, m));
            if (many > 0) c.due("12: the last at the last", maker.make().danger(many - 1, miles - 1) != -1, true);
        }
        c.due("12: none such is told ahead of -2", Checks.made("G", "01").danger(0, 1), -1);
        c.refused("12: it can't be there", () -> Checks.made("G", "01"), x -> x.danger(0, 0), -2);
    }

    private static void dangerByKind() {
        ThornHedge x = Checks.made("9G8", "09;19;29;39;49");
        Checks.text(x, "fr").weather();
        int[][] fair = {{45, -2, 40}, {20, -2, 20}, {-2, -2, -2}, {-2, 0, -2}, {0, 0, 0}};
        for (int i = 0; i < 5; i++) for (int m = 0; m < 3; m++) c.due("12: KIND " + i + " at " + m, x.danger(i, m), fair[i][m]);
        x.guard(0, 9);
        x.guard(1, 9);
        x.guard(2, 9);
        x.price(1, 0);
        x.weeks(1);
        int[][] rain = {{135, -2, 130}, {110, -2, 110}, {90, -2, 90}, {-2, 45, -2}, {54, 54, 54}};
        for (int i = 0; i < 5; i++) for (int m = 0; m < 3; m++) c.due("12: in rain, KIND " + i + " at " + m, x.danger(i, m), rain[i][m]);
        int[] risk = {0, 1, 2, 3, 998, 999};
        for (int r : risk) {
            Checks.text(x, "" + r).rule();
            c.due("12: half of RISK " + r + ", cut", x.danger(3, 1), r / 2);
            c.due("12: RISK " + r, x.danger(0, 0), r);
        }
        Checks.text(x, "h").rule();
        for (int h = 0; h <= 9; h++) {
            x.sheet(2, 1, h, 0);
            c.due("12: camels, half of HEDGE " + h + ", cut", x.danger(1, 0), h / 2);
            c.due("12: flood, 0 as HEDGE", x.danger(2, 0), 0);
        }
        ThornHedge men = Checks.made("GGGGGGGGGGGG", "49");
        for (int m = 0; m < 12; m++) men.guard(m, 9);
        c.due("12: of earth, all MEN times 2", men.danger(0, 11), 216);
    }

    // ---- promise 13

    private static void sheetRefused() {
        for (Twins.Maker maker : MAKERS) {
            for (int kind : Twins.outside(0, 3)) {
                for (int n : new int[] {0, 12, -1, 13, Integer.MIN_VALUE, Integer.MAX_VALUE}) c.refused("13: another kind, " + kind + ", " + n, maker, x -> x.sheet(kind, n, 5, 1));
            }
            for (int kind = 0; kind <= 3; kind++) {
                int k = kind;
                for (int n : new int[] {13, 14, Integer.MAX_VALUE}) c.refused("13: n above 12, of kind " + k + ", " + n, maker, x -> x.sheet(k, n, 5, 1));
            }
            for (int kind = 0; kind <= 2; kind++) {
                int k = kind;
                for (int n : new int[] {-1, -2, Integer.MIN_VALUE}) c.refused("13: n below 0, of kind " + k + ", " + n, maker, x -> x.sheet(k, n, 5, 1), -2);
                c.due("13: n 0 of kind " + k, maker.make().sheet(k, 0, 5, 1), 0);
                c.due("13: n 12 of kind " + k, maker.make().sheet(k, 12, 1, 0), maker.make().count(0));
            }
            for (int n : new int[] {12, 0, -1, Integer.MIN_VALUE}) {
                ThornHedge x = maker.make();
                c.due("13: missing, n " + n, x.sheet(3, n, 5, 1), -3);
                c.due("13: missing, all 0", x.count(9), 0);
            }
        }
    }

    private static void sheetEntries() {
        int[][] due = {{0, 127, 9}, {0, 128, 0}, {0, 255, 0}, {0, 256, 0}, {0, 257, 1}, {0, 265, 9}, {0, 266, 9}, {0, -1, 0}, {0, -128, 0}, {0, -129, 9}, {0, -247, 9}, {0, -248, 8}, {0, -256, 0},
            {0, Integer.MAX_VALUE, 0}, {0, Integer.MIN_VALUE, 0}, {0, Integer.MIN_VALUE + 3, 3}, {0, 9, 9}, {0, 10, 9}, {0, 0, 0},
            {1, 127, 9}, {1, 128, 9}, {1, 256, 9}, {1, 32767, 9}, {1, 32768, 0}, {1, 65535, 0}, {1, 65536, 0}, {1, 65537, 1}, {1, 65545, 9}, {1, -1, 0}, {1, -32768, 0}, {1, -32769, 9}, {1, -65529, 7},
            {1, Integer.MAX_VALUE, 0}, {1, Integer.MIN_VALUE, 0}, {1, Integer.MIN_VALUE + 4, 4}, {1, 9, 9}, {1, 10, 9}, {1, 0, 0},
            {2, 127, 9}, {2, 128, 9}, {2, 32768, 9}, {2, 65536, 9}, {2, -1, 0}, {2, Integer.MAX_VALUE, 9}, {2, Integer.MIN_VALUE, 0}, {2, 8, 8}, {2, 9, 9}, {2, 10, 9}, {2, 0, 0}, {2, 1, 1}};
        for (int[] d : due) {
            ThornHedge x = Checks.made("5", "");
            c.due("13: kind " + d[0] + ", entry " + d[1], x.sheet(d[0], 1, d[1], 0), d[2]);
            c.due("13: kind " + d[0] + ", entry " + d[1] + ", HEDGE", x.mile(0, 0), d[2]);
        }
        // f + step goes round beyond the greatest int
        int[][] steps = {{2, Integer.MAX_VALUE, 1, 90}, {2, Integer.MIN_VALUE, -1, 9}, {2, Integer.MAX_VALUE, Integer.MAX_VALUE, 90}, {2, 1, Integer.MIN_VALUE, 10}, {2, -1, Integer.MIN_VALUE, 9},
            {0, 126, 1, 99}, {0, 127, 1, 90}, {0, -128, -1, 9}, {0, 3, 256, 33}, {0, 3, 128, 30}, {1, 32767, 1, 90}, {1, -32768, -1, 9}, {1, 4, 65536, 44}, {1, 4, 32768, 40}, {1, 4, 256, 49}};
        for (int[] s : steps) {
            ThornHedge x = Checks.made("55", "");
            x.sheet(s[0], 2, s[1], s[2]);
            c.due("13: kind " + s[0] + ", from " + s[1] + " by " + s[2], x.mile(0, 0) * 10 + x.mile(1, 0), s[3]);
        }
    }

    private static void sheetMiles() {
        for (int miles = 1; miles <= 12; miles++) {
            for (int n = 0; n <= 12; n++) {
                ThornHedge x = Checks.made(Checks.times("5", miles), "");
                int told = Math.min(n, miles);
                c.due("13: " + n + " entries for " + miles + " miles", x.sheet(2, n, 3, 0), 3 * told);
                c.due("13: the sum of all", x.count(9), 3 * told);
                if (told > 0) c.due("13: the last entry", x.mile(told - 1, 0), 3);
                if (told < miles) c.due("13: behind it", x.mile(told, 0), 0);
            }
        }
        ThornHedge x = Checks.made("000000000000", "");
        c.due("13: f + 11 times step", x.sheet(2, 12, -8, 1), 6);
        c.due("13: the twelfth", x.mile(11, 0), 3);
        c.due("13: nothing to undo", x.undo(), -1);
        x.keep(0);
        x.guard(0, 4);
        x.sheet(3, 0, 0, 0);
        c.due("13: what can be undone stays", x.count(12), 1);
        c.due("13: what is kept stays", x.again(0), true);
        c.due("13: as it was kept", x.mile(11, 0), 3);
    }

    // ---- promises 14 to 17

    private static void priceBounds() {
        for (Twins.Maker maker : MAKERS) {
            for (int what = 0; what <= 1; what++) {
                int w = what;
                c.range("14: price(" + w + ", v)", maker, 0, 99, (x, v) -> x.price(w, v));
                for (int v : new int[] {0, 99}) {
                    ThornHedge x = maker.make();
                    int was = x.count(3 + w), other = x.count(4 - w);
                    c.due("14: what it was", x.price(w, v), was);
                    c.due("14: becomes", x.count(3 + w), v);
                    c.due("14: the other stays", x.count(4 - w), other);
                    c.due("14: what it was then", x.price(w, 50), v);
                }
            }
            c.range("14: price(what, 7)", maker, 0, 1, (x, what) -> x.price(what, 7));
        }
    }

    private static void guardBounds() {
        for (Twins.Maker maker : MAKERS) {
            int last = maker.make().count(0) - 1;
            c.range("15: guard(mile, 1)", maker, 0, last, (x, m) -> x.guard(m, 1));
            for (int m : new int[] {0, last}) {
                c.range("15: guard(" + m + ", n)", maker, 0, 9, (x, n) -> x.guard(m, n));
                for (int n : new int[] {0, 9}) {
                    ThornHedge x = maker.make();
                    int others = x.count(7) - x.mile(m, 2);
                    c.due("15: MEN of all MILES", x.guard(m, n), others + n);
                    c.due("15: MEN become", x.mile(m, 2), n);
                    c.due("15: counted", x.count(7), others + n);
                }
            }
        }
        ThornHedge x = Checks.made("000000000000", "");
        for (int m = 0; m < 12; m++) c.due("15: nine at each", x.guard(m, 9), 9 * m + 9);
        for (int m = 0; m < 12; m++) c.due("15: none at each", x.guard(m, 0), 99 - 9 * m);
    }

    private static void plantBounds() {
        Twins.Maker maker = () -> Checks.made("0G5", "01");
        c.range("16: plant(0, n)", maker, 1, 9, (x, n) -> x.plant(0, n));
        c.range("16: plant(mile, 1)", () -> Checks.made("0", ""), 0, 0, (x, m) -> x.plant(m, 1));
        c.range("16: plant(mile, 1) of 12", () -> Checks.made("000000000000", ""), 0, 11, (x, m) -> x.plant(m, 1));
        for (Twins.Maker m : MAKERS) for (int n : new int[] {0, -1, 10, Integer.MIN_VALUE, Integer.MAX_VALUE}) c.refused("16: plant(0, " + n + ")", m, x -> x.plant(0, n));
        for (int h = 0; h <= 9; h++) {
            for (int n = 1; n <= 9; n++) {
                ThornHedge x = Checks.made("" + h, "");
                c.due("16: " + n + " more than " + h + ", 9 at most", x.plant(0, n), Math.min(9, h + n));
                c.due("16: HEDGE then", x.mile(0, 0), Math.min(9, h + n));
            }
        }
    }

    private static void plantAtGate() {
        c.refused("16: it is a GATE", Twins::some, x -> x.plant(2, 1), -2);
        c.refused("16: it is a GATE, 9", Twins::full, x -> x.plant(1, 9), -2);
        for (int n : new int[] {0, 10, Integer.MIN_VALUE, Integer.MAX_VALUE}) c.refused("16: a GATE, but another n", Twins::some, x -> x.plant(2, n));
        ThornHedge x = Checks.made("G", "");
        x.gate(0);
        c.due("16: a GATE no more", x.plant(0, 1), 1);
        x.gate(0);
        c.due("16: a GATE again", x.plant(0, 1), -2);
    }

    private static void gateBounds() {
        for (Twins.Maker maker : MAKERS) c.range("17: gate(mile)", maker, 0, maker.make().count(0) - 1, (x, m) -> x.gate(m));
        ThornHedge x = Checks.made("999999999999", "");
        for (int m = 0; m < 12; m++) {
            c.due("17: made, how many", x.gate(m), m + 1);
            c.due("17: its HEDGE is 0 then", x.mile(m, 0), 0);
            c.due("17: bits", x.count(8), (1 << m + 1) - 1);
        }
        for (int m = 0; m < 12; m++) {
            c.due("17: taken away, how many", x.gate(m), 11 - m);
            c.due("17: no HEDGE comes back", x.mile(m, 0), 0);
        }
        c.due("17: none left", x.count(8), 0);
        ThornHedge men = Checks.made("9", "");
        men.guard(0, 9);
        men.gate(0);
        c.due("17: its MEN stay", men.mile(0, 2), 9);
    }

    // ---- weeks

    private static void weeksBounds() {
        for (Twins.Maker maker : MAKERS) c.range("18: weeks(n)", maker, 0, 60, (x, n) -> x.weeks(n));
        ThornHedge x = Checks.made("9", "41");
        Checks.text(x, "d").weather();
        c.due("18: no WEEKS, no loads", x.weeks(0), 0);
        c.row("18: no WEEKS", x, 0, 9);
        c.due("18: no WEEKS, WEEK", x.count(5), 0);
        c.due("18: no WEEKS can be undone", x.count(12), 1);
        c.due("18: one WEEK", x.weeks(1), 1);
        c.row("18: one WEEK", x, 1, 8);
        c.due("18: sixty WEEKS", x.weeks(60), 60);
        c.row("18: sixty WEEKS", x, 1, 0);
        c.due("18: WEEK then", x.count(5), 61);
        c.due("18: OVER then", x.count(6), 61);
        ThornHedge most = Checks.made("0", "09;09;09;09;09;09;09;09");
        c.due("18: eight times nine in each", most.weeks(60), 4320);
        c.row("18: all eight", most, 255, 0);
        for (int i = 0; i < 400; i++) most.weeks(60);
        c.due("18: WEEK, far on", most.count(5), 401 * 60);
        c.due("18: OVER, far on", most.count(6), 401 * 4320);
        ThornHedge turns = Checks.made("2", "01;29");
        Checks.text(turns, "ffr").weather();
        // baskets in fair weeks at first; the hedge of 3 is too much for them then
        int[][] went = {{1, 1}, {1, 1}, {1, 3}, {1, 0}, {1, 0}, {1, 2}, {3, 2}, {0, 0}, {1, 0}};
        for (int i = 0; i < went.length; i++) {
            turns.weeks(went[i][0]);
            c.due("18: who went in these, not in others, " + i, turns.row(0), went[i][1]);
        }
        ThornHedge none = Checks.made("9", "01");
        none.weeks(9);
        c.row("18: nobody went", none, 0, 9);
    }

    private static void weekCamels() {
        for (int h = 0; h <= 9; h++) {
            ThornHedge x = Checks.made("" + h, "19");
            x.price(1, 99);
            x.weeks(1);
            c.due("18: WEEK, camels, 2 less than " + h + ", 0 at least", x.mile(0, 0), Math.max(0, h - 2));
        }
        ThornHedge x = Checks.made("5", "09;39;49;29");
        x.weeks(1);
        c.due("18: WEEK, of other KINDS no HEDGE is less", x.mile(0, 0), 5);
        ThornHedge twice = Checks.made("35", "19;19;19");
        // mile 0: 3, then 1, then 0
        c.due("18: WEEK, camels behind camels", twice.weeks(1), 27);
        c.due("18: WEEK, the first mile, 0 at least", twice.mile(0, 0), 0);
        c.due("18: WEEK, the other as it was", twice.mile(1, 0), 5);
        ThornHedge stay = Checks.made("5", "11");
        stay.price(1, 5);
        stay.weeks(1);
        c.due("18: WEEK, camels that do not GO", stay.mile(0, 0), 5);
    }

    private static void weekDry() {
        ThornHedge x = Checks.made("0129G", "");
        Checks.text(x, "d").weather();
        x.weeks(1);
        int[] due = {0, 0, 1, 8, 0};
        for (int m = 0; m < 5; m++) c.due("18: WEEK, dry, 1 less, 0 at least, mile " + m, x.mile(m, 0), due[m]);
        x.sheet(2, 5, 5, 0);
        x.weeks(1);
        c.due("18: WEEK, dry, of a GATE too", x.mile(4, 0), 4);
        x.weeks(60);
        c.due("18: WEEK, dry, all 0", x.count(9), 0);
    }

    private static void weekRain() {
        ThornHedge x = Checks.made("089G7", "");
        Checks.text(x, "r").weather();
        x.weeks(1);
        int[] due = {1, 9, 9, 1, 8};
        for (int m = 0; m < 5; m++) c.due("18: WEEK, rain, 1 more, 9 at most, of a GATE too, mile " + m, x.mile(m, 0), due[m]);
        x.weeks(60);
        c.due("18: WEEK, rain, all 9", x.count(9), 45);
        c.due("18: WEEK, it is a GATE yet", x.mile(3, 1), 1);
    }

    private static void weekAnts() {
        for (int miles = 1; miles <= 12; miles++) {
            ThornHedge x = Checks.made(Checks.times("9", miles), "");
            Checks.text(x, "a").weather();
            for (int week = 0; week < 25; week++) {
                x.sheet(2, 12, 9, 0);
                x.weeks(1);
                c.due("18: WEEK, ants in WEEK " + week + " of " + miles + " miles", x.mile(week % miles, 0), 0);
                c.due("18: WEEK, ants, of one mile alone", x.count(9), 9 * (miles - 1));
            }
        }
        ThornHedge gate = Checks.made("G", "");
        Checks.text(gate, "ra").weather();
        gate.weeks(1);
        c.due("18: WEEK, rain at a GATE", gate.mile(0, 0), 1);
        gate.weeks(1);
        c.due("18: WEEK, ants at a GATE", gate.mile(0, 0), 0);
    }

    // ---- promise 19

    private static void logIsRefused() {
        for (int miles = 1; miles <= 12; miles++) {
            for (int m = 0; m < 12; m++) {
                for (String act : new String[] {"m%1", "p%1", "g%"}) {
                    ThornHedge x = Checks.made(Checks.times("0", miles), "");
                    String text = act.replace('%', (char) ('a' + m));
                    boolean done = m < miles;
                    c.due("19: '" + text + "' of " + miles + " miles", Checks.text(x, text).log(), done ? 1 : 0);
                    c.row("19: '" + text + "' of " + miles + " miles", x, done ? 0 : 1, 0);
                    c.due("19: '" + text + "' of " + miles + " miles, undone", x.count(12), done ? 1 : 0);
                }
            }
        }
        ThornHedge x = Checks.made("G0", "41");
        c.due("19: till one is refused, a GATE", Checks.text(x, "w2pb3pa1w2pb1").log(), 2);
        c.row("19: till one is refused, a GATE", x, 1, 2);
        c.due("19: those ahead are done", x.mile(1, 0), 3);
        c.due("19: those behind are not", x.count(5), 2);
        c.due("19: the refused one is the last", Checks.text(x, "w1pa1").log(), 1);
        c.row("19: the refused one is the last", x, 1, 3);
        c.due("19: the refused one is the first", Checks.text(x, "mc1w1").log(), 0);
        c.row("19: the refused one is the first", x, 1, 3);
        c.due("19: none was done, none can be undone", x.count(12), 2);
        c.due("19: a GATE taken away, then planted", Checks.text(x, "gapa1").log(), 2);
        c.row("19: all done", x, 0, 3);
    }

    private static void logDigits() {
        for (int d = 0; d <= 9; d++) {
            ThornHedge x = Checks.made("00", "41");
            c.due("19: w" + d, Checks.text(x, "w" + d).log(), 1);
            c.due("19: w" + d + ", WEEK", x.count(5), d);
            c.row("19: w" + d, x, 0, d);
            c.due("19: mb" + d, Checks.text(x, "mb" + d).log(), 1);
            c.due("19: mb" + d + ", MEN", x.mile(1, 2), d);
            if (d > 0) {
                c.due("19: pa" + d, Checks.text(x, "pa" + d).log(), 1);
                c.due("19: pa" + d + ", HEDGE", x.mile(0, 0), d);
            }
            c.due("19: c0" + d, Checks.text(x, "c0" + d).log(), 1);
            c.due("19: CHEAP", x.count(3), d);
            c.due("19: d" + d + "9", Checks.text(x, "d" + d + "9").log(), 1);
            c.due("19: DEAR", x.count(4), d * 10 + 9);
        }
        ThornHedge x = new ThornHedge();
        c.due("19: the least and the greatest", Checks.text(x, "c00d00c99d99").log(), 4);
        c.due("19: CHEAP 99", x.count(3), 99);
        c.due("19: DEAR 99", x.count(4), 99);
    }

    private static void logEmpty() {
        for (Twins.Maker maker : MAKERS) {
            ThornHedge x = maker.make(), twin = maker.make();
            int over = x.count(6);
            c.due("19: an empty one, nothing", Checks.text(x, "").log(), 0);
            c.row("19: an empty one", x, 0, over);
            c.alike("19: an empty one", x, twin, false, false);
        }
    }

    // ---- promise 20

    private static void undoNone() {
        c.refused("20: none", ThornHedge::new, x -> x.undo());
        c.refused("20: none, the line is new", () -> Checks.made("52G", "09"), x -> x.undo());
        ThornHedge x = Twins.full();
        for (int i = 14; i >= 0; i--) c.due("20: of fifteen", x.undo(), i);
        for (int i = 0; i < 3; i++) c.due("20: none is left", x.undo(), -1);
    }

    private static void undoFifteen() {
        for (int acts = 1; acts <= 40; acts++) {
            ThornHedge x = new ThornHedge();
            for (int i = 1; i <= acts; i++) x.price(1, i);
            int kept = Math.min(15, acts);
            c.due("20: of " + acts + " acts, kept", x.count(12), kept);
            for (int i = 1; i <= kept; i++) {
                c.due("20: of " + acts + " acts, left", x.undo(), kept - i);
                c.due("20: of " + acts + " acts, the latest ones", x.count(4), acts - i == 0 ? 20 : acts - i);
            }
            c.due("20: of " + acts + " acts, no more", x.undo(), -1);
            c.due("20: an act again", x.price(0, 9) >= 0 && x.undo() == 0, true);
        }
        ThornHedge x = new ThornHedge();
        for (int i = 1; i <= 15; i++) x.guard(0, i % 9 + 1);
        for (int i = 0; i < 5; i++) x.undo();
        for (int i = 1; i <= 7; i++) x.price(1, i);
        c.due("20: ten and seven, fifteen", x.count(12), 15);
        for (int i = 0; i < 15; i++) x.undo();
        c.due("20: the oldest two are kept no more", x.mile(0, 2), 3);
    }

    private static void undoSuchAsWereDone() {
        ThornHedge x = Checks.made("5G", "");
        x.price(0, 100);
        x.price(2, 1);
        x.guard(0, 10);
        x.guard(2, 1);
        x.plant(0, 0);
        x.plant(1, 1);
        x.gate(2);
        x.weeks(61);
        Checks.text(x, "wx").log();
        Checks.text(x, "pb1w1").log();
        Checks.text(x, "").log();
        x.sheet(2, 1, 7, 0);
        x.keep(0);
        x.goes();
        x.years(3, 9);
        c.due("20: refused acts and questions can't be undone", x.count(12), 0);
        c.due("20: none", x.undo(), -1);
        x.weeks(0);
        x.guard(0, 0);
        x.price(0, 5);
        x.plant(0, 9);
        x.plant(0, 1);
        c.due("20: acts that change nothing were done", x.count(12), 5);
        for (int i = 4; i >= 0; i--) c.due("20: they are undone one by one", x.undo(), i);
        c.due("20: as ahead of all", x.mile(0, 0), 7);
    }

    private static void undoEachAct() {
        Twins.Asked[] acts = {x -> x.price(0, 77), x -> x.price(1, 88), x -> x.guard(0, 7), x -> x.plant(0, 1), x -> x.gate(0), x -> x.gate(1), x -> x.weeks(0), x -> x.weeks(1), x -> x.weeks(60),
            x -> Checks.text(x, "ma3").log()};
        String[] names = {"price(0)", "price(1)", "guard", "plant", "gate", "gate of another", "no weeks", "a week", "sixty weeks", "log"};
        for (int i = 0; i < acts.length; i++) {
            ThornHedge x = Twins.some(), twin = Twins.some();
            int can = x.count(12);
            c.due("20: " + names[i] + " is done", acts[i].of(x) >= 0, true);
            c.due("20: " + names[i] + " can be undone", x.count(12), can + 1);
            c.due("20: " + names[i] + " is undone", x.undo(), can);
            c.alike("20: " + names[i] + ", as ahead of it", x, twin, false, false);
        }
    }

    private static void undoLogAsOne() {
        for (Twins.Maker maker : MAKERS) {
            ThornHedge x = maker.make();
            int can = Math.min(15, x.count(12) + 1);
            c.due("20: a long log", Checks.text(x, "ma1ma2gaw1c01d02w9").log(), 7);
            c.due("20: a log is one", x.count(12), can);
            c.due("20: undone as one", x.undo(), can - 1);
            String is = Twins.all(x, false, false);
            ThornHedge twin = maker.make();
            if (twin.count(12) == 15) {
                twin.price(0, 1);
                twin.undo();
            }
            c.due("20: as ahead of it", is, Twins.all(twin, false, false));
        }
        ThornHedge x = Checks.made("5G", "41");
        Checks.text(x, "w3pb1w1").log();
        c.due("20: a log of which one act was done", x.undo(), 0);
        c.due("20: as ahead of the log", x.count(5) + x.count(6), 0);
    }

    private static void undoForgotten() {
        ThornHedge x = new ThornHedge();
        x.keep(1);
        x.guard(0, 1);
        Checks.text(x, "").line();
        c.due("20: a refused line() forgets none", x.count(12), 1);
        x.again(0);
        x.again(3);
        x.again(-1);
        c.due("20: a refused again() forgets none", x.count(12), 1);
        x.again(1);
        c.due("20: again() forgets them", x.count(12), 0);
        c.due("20: none behind again()", x.undo(), -1);
        x.guard(0, 1);
        Checks.text(x, "0").line();
        c.due("20: line() forgets them", x.undo(), -1);
        x.guard(0, 1);
        x.keep(1);
        c.due("20: keep() forgets none", x.undo(), 0);
        Checks.text(x, "01").carriers();
        Checks.text(x, "r").weather();
        Checks.text(x, "g").rule();
        x.guard(0, 2);
        c.due("20: CARRIERS, WEATHER, THE RULE are not undone", x.undo() + 10 * x.count(1) + 100 * x.danger(0, 0), 10);
    }

    // ---- promises 43 to 46

    private static void keepBounds() {
        for (Twins.Maker maker : MAKERS) {
            for (int i = 0; i < 3; i++) {
                c.due("43: keep(" + i + ")", maker.make().keep(i), true);
                ThornHedge x = maker.make(), twin = maker.make();
                x.keep(i);
                twin.keep(i);
                x.keep(i);
                c.alike("43: kept anew as it is", x, twin, true, true);
            }
            for (int i : Twins.outside(0, 2)) c.refused("43: keep(" + i + ")", maker, x -> x.keep(i) ? 1 : 0, 0);
        }
        ThornHedge x = new ThornHedge();
        x.guard(0, 1);
        x.keep(0);
        x.guard(0, 2);
        x.keep(1);
        x.guard(0, 3);
        x.keep(2);
        for (int i = 0; i < 3; i++) c.due("44: under " + i + " its own", x.again(i) ? x.mile(0, 2) : -1, i + 1);
        x.guard(0, 9);
        x.keep(1);
        for (int i = 0; i < 3; i++) c.due("44: under 1 the later one", x.again(i) ? x.mile(0, 2) : -1, i == 1 ? 9 : i + 1);
    }

    private static void againNothingKept() {
        for (Twins.Maker maker : MAKERS) for (int i : Twins.outside(0, 2)) c.refused("44: again(" + i + ")", maker, x -> x.again(i) ? 1 : 0, 0);
        for (int i = 0; i < 3; i++) {
            int at = i;
            c.refused("44: nothing kept under " + i, ThornHedge::new, x -> x.again(at) ? 1 : 0, 0);
            ThornHedge x = new ThornHedge();
            x.keep(i);
            for (int j = 0; j < 3; j++) c.due("44: kept under " + i + " alone", x.again(j), i == j);
        }
        c.refused("44: nothing kept under 1", Twins::some, x -> x.again(1) ? 1 : 0, 0);
        ThornHedge x = Checks.made("G9", "49");
        x.guard(1, 4);
        x.price(0, 1);
        x.price(1, 2);
        x.weeks(4);
        x.keep(0);
        int[] kept = new int[10];
        for (int what = 3; what <= 9; what++) kept[what] = x.count(what);
        x.gate(0);
        x.guard(0, 9);
        x.price(0, 9);
        x.price(1, 90);
        x.plant(0, 9);
        x.weeks(60);
        c.due("44: again", x.again(0), true);
        for (int what = 3; what <= 9; what++) c.due("44: as it was kept, count(" + what + ")", x.count(what), kept[what]);
        c.due("44: the CARRIERS stay", x.count(1), 1);
    }

    private static void countBounds() {
        for (Twins.Maker maker : MAKERS) {
            for (int what = 0; what <= 14; what++) c.due("45: count(" + what + ")", maker.make().count(what) >= 0, true);
            for (int what : Twins.outside(0, 14)) c.refused("45: another what, " + what, maker, x -> x.count(what), -100);
        }
        int[][] due = {{0, 12}, {1, 8}, {2, 8}, {3, 5}, {4, 20}, {5, 3}, {7, 108}, {8, 0x2AA}, {10, 20}, {11, 12}, {12, 15}, {13, 12}, {14, 80}};
        for (int[] d : due) c.due("45: all full, count(" + d[0] + ")", Twins.full().count(d[0]), d[1]);
    }

    private static void rowBounds() {
        for (Twins.Maker maker : MAKERS) {
            int has = maker.make().count(13);
            for (int i = 0; i < has; i++) {
                int at = i;
                c.due("46: row(" + i + ") of " + has, Twins.answer(maker.make(), x -> x.row(at)) != Twins.THROWN, true);
            }
            for (int i : Twins.outside(0, has - 1)) thrown("46: row(" + i + ") of " + has, maker, x -> x.row(i));
        }
        for (int miles = 1; miles <= 12; miles++) {
            ThornHedge x = Checks.made(Checks.times("0", miles), "");
            x.beats(1);
            c.due("46: as many numbers as MILES", x.count(13), miles);
            c.due("46: the last", x.row(miles - 1), 1);
            int behind = miles;
            c.noSuchElement("46: behind the last", () -> x.row(behind));
            x.walls();
            c.due("46: one number", x.row(0), 0);
            c.noSuchElement("46: nothing of the one before", () -> x.row(1));
        }
    }
}
