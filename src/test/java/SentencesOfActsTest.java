/** Promises 1 to 20, sentence by sentence: texts, what can be seen, acts and weeks. */
public final class SentencesOfActsTest {
    private static final Sentences s = new Sentences("SentencesOfActsTest");
    private static final Twins.Maker[] MAKERS = {ThornHedge::new, Twins::some, Twins::full};

    public static void main(String[] args) {
        s.run(() -> newObject(), () -> sign(), () -> end(), () -> line(), () -> carriers(), () -> weather(), () -> mouths(),
            () -> rule(), () -> mile(), () -> carrier(), () -> mouth(), () -> danger(), () -> sheet(), () -> price(),
            () -> guard(), () -> plant(), () -> gate(), () -> weeks(), () -> logDone(), () -> logFaults(), () -> undo(),
            () -> undoOf());
        s.end();
    }

    private static int word(String four) {
        return four.charAt(0) << 24 | four.charAt(1) << 16 | four.charAt(2) << 8 | four.charAt(3);
    }

    /** The texts have this answer, on a new object and on one that has something of all. */
    private static void faults(Twins.Asked read, long due, String... texts) {
        for (String text : texts) {
            s.refusedText(ThornHedge::new, text, read, due);
            s.refusedText(Twins::some, text, read, due);
        }
    }

    private static void newObject() {
        s.promise(1, "");
        s.says("One MILE without a HEDGE");
        ThornHedge x = new ThornHedge();
        s.is("MILES", x.count(0), 1);
        s.is("HEDGE", x.mile(0, 0), 0);
        s.is("no GATE", x.mile(0, 1), 0);
        s.is("no MEN", x.mile(0, 2), 0);
        s.thrown("no other", () -> x.mile(1, 0));
        s.says("no CARRIERS");
        s.is("CARRIERS", x.count(1), 0);
        s.thrown("none", () -> x.carrier(0, 0));
        s.says("no MOUTHS");
        s.is("MOUTHS", x.count(2), 0);
        s.thrown("none", () -> x.mouth(0, 0));
    }

    private static void sign() {
        s.promise(2, "sign");
        s.says("Four signs come behind THE TEXT");
        ThornHedge x = new ThornHedge();
        x.sign(word("1234"));
        x.end(3);
        x.sign(word("5678"));
        x.line();
        int[] due = {1, 2, 3, 5, 6, 7, 8};
        s.is("seven", x.count(0), 7);
        for (int m = 0; m < 7; m++) s.is("sign " + m, x.mile(m, 0), due[m]);
        s.says("of v the highest byte first");
        ThornHedge y = new ThornHedge();
        y.sign(0x39384736);
        y.line();
        for (int m = 0; m < 4; m++) s.is("byte " + m, y.mile(m, 0) * 10 + y.mile(m, 1), new int[] {90, 80, 1, 60}[m]);
        for (int p = 0; p < 4; p++) {
            ThornHedge z = new ThornHedge();
            z.sign(0x35353535 | 0x80 << 24 - 8 * p);
            s.is("a byte above 127 at " + p, z.line(), -1 - p);
        }
        s.says("how many it has");
        ThornHedge z = new ThornHedge();
        for (int n = 4; n <= 80; n += 4) s.is("with four more", z.sign(n), n);
        z.end(7);
        s.is("behind seven", z.sign(-1), 11);
        s.says("Refused: there would be more than 80");
        for (int has = 70; has <= 80; has++) {
            String text = Checks.times("5", has);
            Twins.Maker maker = () -> Checks.text(Twins.some(), text);
            if (has > 76) s.refused("behind " + has, maker, t -> t.sign(word("9999")), -1);
            else s.is("behind " + has, maker.make().sign(0), has + 4);
        }
    }

    private static void end() {
        s.promise(3, "end");
        s.says("THE TEXT has its first n signs alone: true");
        for (int n = 0; n <= 4; n++) {
            ThornHedge x = Checks.text(new ThornHedge(), "9876");
            s.is("end(" + n + ")", x.end(n), true);
            s.is("signs", x.count(14), n);
            if (n == 0) continue;
            x.line();
            s.is("the first", x.mile(0, 0), 9);
            s.is("the last", x.mile(n - 1, 0), 10 - n);
        }
        s.says("false if it has not so many");
        for (int n : new int[] {5, 6, 80, 81, Integer.MAX_VALUE}) s.refused("end(" + n + ")", () -> Checks.text(Twins.some(), "9876"), x -> x.end(n) ? 1 : 0, 0);
        s.refused("of none", ThornHedge::new, x -> x.end(1) ? 1 : 0, 0);
        s.says("or n is below 0");
        for (int n : new int[] {-1, -4, Integer.MIN_VALUE}) s.refused("end(" + n + ")", () -> Checks.text(Twins.some(), "9876"), x -> x.end(n) ? 1 : 0, 0);
    }

    private static void line() {
        s.promise(4, "line");
        s.says("THE TEXT is THE LINE anew: how many MILES");
        ThornHedge x = Twins.some();
        s.is("how many", Checks.text(x, "3G").line(), 2);
        s.is("MILES", x.count(0), 2);
        s.is("the first", x.mile(0, 0) * 10 + x.mile(0, 1), 30);
        s.is("the second", x.mile(1, 0) * 10 + x.mile(1, 1), 1);
        s.thrown("what was behind is gone", () -> x.mile(2, 0));
        ThornHedge gates = Checks.made("G9G", "");
        Checks.text(gates, "505").line();
        s.is("no GATE of what was", gates.count(8), 0);
        s.is("nor is a HEDGE", gates.count(9), 10);
        s.is("CARRIERS stay", x.count(1), 5);
        s.is("MOUTHS stay", x.count(2), 3);
        s.is("WEATHER stays", x.count(10), 5);
        s.is("CHEAP and DEAR stay", x.count(3) * 100 + x.count(4), 533);
        s.is("what was heard stays", x.count(11), 2);
        s.is("THE TEXT is empty", x.count(14), 0);
        s.says("there are no MEN");
        ThornHedge y = Twins.full();
        Checks.text(y, "555555555555").line();
        s.is("of all MILES", y.count(7), 0);
        for (int m = 0; m < 12; m++) s.is("at " + m, y.mile(m, 2), 0);
        Checks.text(y, "n*100+g").rule();
        s.is("none at other MILES", y.danger(0, 0), 0);
        s.says("WEEK and OVER are 0");
        s.is("WEEK was not", Twins.some().count(5) > 0, true);
        s.is("OVER was not", Twins.some().count(6) > 0, true);
        s.is("WEEK", x.count(5), 0);
        s.is("OVER", x.count(6), 0);
        s.says("nothing can be undone");
        s.is("how many", x.count(12), 0);
        s.is("undo()", x.undo(), -1);
        s.says("nothing is kept");
        for (int i = 0; i < 3; i++) s.is("under " + i, x.again(i), false);
        s.says("-1 - p: the sign at p can't stand there");
        for (int p = 0; p < 12; p++) faults(ThornHedge::line, -1 - p, Checks.times("5", p) + "g", Checks.times("G", p) + "/5", Checks.times("9", p) + ":" + Checks.times("9", 20));
        s.says("its end for none");
        faults(ThornHedge::line, -1, "");
        s.says("a thirteenth sign: at it");
        faults(ThornHedge::line, -13, Checks.times("5", 13), Checks.times("5", 12) + "x", Checks.times("5", 13) + "x", Checks.times("G", 80));
    }

    private static void carriers() {
        s.promise(5, "carriers");
        s.says("THE TEXT tells of CARRIERS (an empty one: nothing): how many LINES");
        ThornHedge x = new ThornHedge();
        s.is("an empty one", Checks.text(x, "").carriers(), 0);
        s.is("none came", x.count(1), 0);
        s.is("one", Checks.text(x, "49").carriers(), 1);
        s.is("three", Checks.text(x, "01;12;23").carriers(), 3);
        for (int i = 0; i < 4; i++) s.is("of " + i, x.carrier(i, 0) * 10 + x.carrier(i, 1), new int[] {49, 1, 12, 23}[i]);
        s.is("THE TEXT is empty", x.count(14), 0);
        s.refusedText(Twins::full, "", ThornHedge::carriers, 0);
        s.says("-1 - p: the sign at p can't stand there");
        faults(ThornHedge::carriers, -1, "5", "x1", ";", "51");
        faults(ThornHedge::carriers, -2, "00", "0x", "0;1");
        faults(ThornHedge::carriers, -3, "011", "01,02", "01 ");
        faults(ThornHedge::carriers, -4, "01;x", "01;;", "01;51");
        faults(ThornHedge::carriers, -5, "01;00;11");
        s.says("its end, if it ends too early");
        faults(ThornHedge::carriers, -2, "0", "4");
        faults(ThornHedge::carriers, -4, "01;");
        faults(ThornHedge::carriers, -5, "01;4");
        s.says("the first sign of a LINE for which there is no room");
        Twins.Maker six = () -> Checks.made("5", "01;12;23;34;45;06");
        for (String text : new String[] {"01;02;03", "01;02;0", "01;02;x", "01;02;03;04", Checks.times("01;", 26)}) s.refusedText(six, text, ThornHedge::carriers, -7);
        s.refusedText(Twins::full, "01", ThornHedge::carriers, -1);
        s.is("for two there is", Checks.text(six.make(), "01;02").carriers(), 2);
        s.says("23, if it has more and the first 23 could go on or end");
        String eight = Checks.times("49;", 7) + "49";
        for (String more : new String[] {";", "4", "x", ";49", Checks.times("9", 57)}) s.refusedText(ThornHedge::new, eight + more, ThornHedge::carriers, -24);
        s.refusedText(ThornHedge::new, eight.substring(0, 22) + "0" + ";49", ThornHedge::carriers, -23);
        s.says("Nothing of it comes, if a LINE can't");
        for (String text : new String[] {"01;5", "01;12;20", "01;12;2", "01;12;23;"}) {
            ThornHedge y = Checks.text(new ThornHedge(), text);
            s.is("'" + text + "'", y.carriers() < 0, true);
            s.is("CARRIERS", y.count(1), 0);
        }
    }

    private static void weather() {
        s.promise(6, "weather");
        s.says("THE TEXT is WEATHER: how many signs");
        ThornHedge x = Checks.made("5", "");
        s.is("three", Checks.text(x, "rrd").weather(), 3);
        s.is("signs", x.count(10), 3);
        x.weeks(1);
        s.is("rain", x.mile(0, 0), 6);
        x.weeks(2);
        s.is("rain and dry", x.mile(0, 0), 6);
        s.is("anew", Checks.text(x, "a").weather(), 1);
        s.is("the signs that were are gone", x.count(10), 1);
        x.weeks(1);
        s.is("ants", x.mile(0, 0), 0);
        s.is("twenty", Checks.text(x, Checks.times("fdra", 5)).weather(), 20);
        s.says("-1 - p: the sign at p can't stand there");
        for (int p = 0; p < 20; p++) faults(ThornHedge::weather, -1 - p, Checks.times("r", p) + "x", Checks.times("f", p) + "F" + Checks.times("f", 30));
        s.says("its end for none");
        faults(ThornHedge::weather, -1, "");
        s.says("a twenty-first sign: at it");
        faults(ThornHedge::weather, -21, Checks.times("f", 21), Checks.times("d", 20) + "x", Checks.times("d", 21) + "x", Checks.times("r", 80));
    }

    private static void mouths() {
        s.promise(7, "mouths");
        s.says("THE TEXT tells of MOUTHS (an empty one: nothing): how many LINES");
        ThornHedge x = new ThornHedge();
        s.is("an empty one", Checks.text(x, "").mouths(), 0);
        s.is("none came", x.count(2), 0);
        s.is("one", Checks.text(x, "9,0").mouths(), 1);
        s.is("three", Checks.text(x, "10,20;3,04;05,6").mouths(), 3);
        for (int i = 0; i < 4; i++) s.is("of " + i, x.mouth(i, 0) * 100 + x.mouth(i, 1), new int[] {900, 1020, 304, 506}[i]);
        s.is("THE TEXT is empty", x.count(14), 0);
        s.refusedText(Twins::full, "", ThornHedge::mouths, 0);
        s.says("-1 - p: the sign at p can't stand there");
        faults(ThornHedge::mouths, -1, "x", ",5", ";", "-1,5");
        faults(ThornHedge::mouths, -2, "5;5", "5x", "5 ,5");
        faults(ThornHedge::mouths, -3, "5,x", "5,,", "123,4", "5,;");
        faults(ThornHedge::mouths, -4, "5,5,5", "5,5x", "55,x");
        faults(ThornHedge::mouths, -5, "5,555", "5,5;;", "5,5;x", "5,55:1");
        s.says("its end, if it ends too early");
        faults(ThornHedge::mouths, -2, "5");
        faults(ThornHedge::mouths, -3, "55", "5,");
        faults(ThornHedge::mouths, -5, "5,5;");
        faults(ThornHedge::mouths, -7, "5,5;55", "5,5;5,");
        s.says("PEOPLE 0: at its last digit");
        faults(ThornHedge::mouths, -1, "0,5", "0,x");
        faults(ThornHedge::mouths, -2, "00,5");
        faults(ThornHedge::mouths, -5, "1,1;0,5");
        faults(ThornHedge::mouths, -6, "1,1;00,5");
        s.says("the first sign of a LINE for which there is no room");
        Twins.Maker six = () -> {
            ThornHedge y = Checks.text(new ThornHedge(), "1,1;2,2;3,3;4,4;5,5;6,6");
            y.mouths();
            return y;
        };
        for (String text : new String[] {"1,1;2,2;3,3", "1,1;2,2;3", "1,1;2,2;0", "1,1;2,2;x", Checks.times("1,1;", 15)}) s.refusedText(six, text, ThornHedge::mouths, -9);
        s.refusedText(Twins::full, "1,1", ThornHedge::mouths, -1);
        s.is("for two there is", Checks.text(six.make(), "1,1;2,2").mouths(), 2);
        s.says("47, if it has more and the first 47 could go on or end");
        String eight = Checks.times("10,10;", 7) + "10,10";
        for (String more : new String[] {";", "0", "x", ";1,1", Checks.times("9", 33)}) s.refusedText(ThornHedge::new, eight + more, ThornHedge::mouths, -48);
        s.refusedText(ThornHedge::new, eight.substring(0, 46) + "x" + ";1,1", ThornHedge::mouths, -47);
        s.says("Nothing of it comes, if a LINE can't");
        for (String text : new String[] {"1,1;0,1", "1,1;2,2;x", "1,1;2,2;3", "1,1;2,2;3,3;"}) {
            ThornHedge y = Checks.text(new ThornHedge(), text);
            s.is("'" + text + "'", y.mouths() < 0, true);
            s.is("MOUTHS", y.count(2), 0);
        }
    }

    private static void rule() {
        s.promise(8, "rule");
        s.says("THE TEXT is THE RULE (an empty one: none): 0");
        ThornHedge x = Checks.made("4", "09");
        s.is("taken", Checks.text(x, "h*7").rule(), 0);
        s.is("DANGER by it", x.danger(0, 0), 28);
        s.is("another one", Checks.text(x, "3-h+9").rule(), 0);
        s.is("DANGER by that", x.danger(0, 0), 8);
        s.is("THE TEXT is empty", x.count(14), 0);
        s.is("an empty one", Checks.text(x, "").rule(), 0);
        x.guard(0, 3);
        s.is("none: h*5+g*10", x.danger(0, 0), 50);
        s.says("-1 - p: the sign at p can't stand there");
        faults(ThornHedge::rule, -1, "x", "+h", "*", ")", "<h", "H");
        faults(ThornHedge::rule, -2, "hh", "h(", "h)", "5h", "()", "(+");
        faults(ThornHedge::rule, -3, "h**h", "h++h", "h+)", "12(", "h<>g");
        faults(ThornHedge::rule, -4, "h<g<l", "1234", "(h))", "h-g(");
        faults(ThornHedge::rule, -5, "(((((h)))))");
        s.says("its end, if it ends too early");
        faults(ThornHedge::rule, -2, "-", "(");
        faults(ThornHedge::rule, -3, "h+", "h*", "h<", "(h", "--", "((");
        faults(ThornHedge::rule, -5, "(h+g", "h*-(");
        s.says("40, if it has more and the first 40 could go on or end");
        String forty = Checks.times("h+", 19) + "12";
        for (String more : new String[] {"3", "+", "x", ")", "+h", Checks.times("+", 40)}) faults(ThornHedge::rule, -41, forty + more);
        faults(ThornHedge::rule, -41, Checks.times("h+", 20), Checks.times("h+", 20) + "h", Checks.times("-", 41), "(" + Checks.times("h+", 19) + "h)");
        faults(ThornHedge::rule, -40, forty.substring(0, 39) + "x", forty.substring(0, 39) + "h+1");
        s.is("40 signs", Checks.text(new ThornHedge(), forty).rule(), 0);
    }

    private static void mile() {
        s.promise(9, "mile");
        ThornHedge x = Checks.made("5G3", "");
        x.guard(1, 7);
        x.guard(2, 1);
        s.says("Of a MILE, what 0: HEDGE");
        for (int m = 0; m < 3; m++) s.is("of " + m, x.mile(m, 0), new int[] {5, 0, 3}[m]);
        s.says("1: 1 with a GATE");
        for (int m = 0; m < 3; m++) s.is("of " + m, x.mile(m, 1), m == 1 ? 1 : 0);
        s.says("2: MEN");
        for (int m = 0; m < 3; m++) s.is("of " + m, x.mile(m, 2), new int[] {0, 7, 1}[m]);
        s.says("NoSuchElementException: none such, another what");
        for (int m : new int[] {-1, 3, 4, 11, 12, Integer.MIN_VALUE, Integer.MAX_VALUE}) for (int what = 0; what < 3; what++) none(x, m, what, (y, a, b) -> y.mile(a, b));
        for (int what : new int[] {-1, 3, Integer.MIN_VALUE, Integer.MAX_VALUE}) for (int m = 0; m < 3; m++) none(x, m, what, (y, a, b) -> y.mile(a, b));
        for (Twins.Maker maker : MAKERS) s.refused("nothing changes", maker, y -> y.mile(12, 0), Twins.THROWN);
    }

    private interface Two {
        long of(ThornHedge x, int a, int b);
    }

    private static void none(ThornHedge x, int a, int b, Two call) {
        s.thrown("(" + a + ", " + b + ")", () -> call.of(x, a, b));
    }

    private static void carrier() {
        s.promise(10, "carrier");
        // baskets 25 and 10, camels 10 and 5, flood without rain, bread 0, earth 0
        ThornHedge x = Checks.made("52G", "03;14;22;35;46");
        s.says("Of a CARRIER, what 0: KIND");
        for (int i = 0; i < 5; i++) s.is("of " + i, x.carrier(i, 0), i);
        s.says("1: LOAD");
        for (int i = 0; i < 5; i++) s.is("of " + i, x.carrier(i, 1), new int[] {3, 4, 2, 5, 6}[i]);
        s.says("2: the MILE to which it would GO now (NONE, if it does not GO)");
        for (int i = 0; i < 5; i++) s.is("of " + i, x.carrier(i, 2), new int[] {1, 1, -1, 2, 0}[i]);
        x.guard(1, 2);
        s.is("now to another", x.carrier(0, 2), 0);
        x.undo();
        x.price(1, 8);
        s.is("9 against 10", x.carrier(0, 2), -1);
        s.is("12 against 5", x.carrier(1, 2), 1);
        x.price(1, 20);
        s.says("3: the least DANGER now (NONE, if there is no MILE where it can)");
        for (int i = 0; i < 5; i++) s.is("of " + i, x.carrier(i, 3), new int[] {10, 5, -1, 0, 0}[i]);
        x.guard(1, 9);
        for (int i = 0; i < 5; i++) s.is("now, of " + i, x.carrier(i, 3), new int[] {25, 10, -1, 0, 18}[i]);
        x.price(1, 0);
        s.is("it does not GO, but it could", x.carrier(0, 3), 25);
        s.is("GATES alone", Checks.made("G", "01").carrier(0, 3), -1);
        s.is("no GATE", Checks.made("0", "31").carrier(0, 3), -1);
        s.says("NoSuchElementException: likewise");
        for (int i : new int[] {-1, 5, 6, 7, 8, Integer.MIN_VALUE, Integer.MAX_VALUE}) for (int what = 0; what < 4; what++) none(x, i, what, (y, a, b) -> y.carrier(a, b));
        for (int what : new int[] {-1, 4, Integer.MIN_VALUE, Integer.MAX_VALUE}) for (int i = 0; i < 5; i++) none(x, i, what, (y, a, b) -> y.carrier(a, b));
        for (Twins.Maker maker : MAKERS) s.refused("nothing changes", maker, y -> y.carrier(8, 2), Twins.THROWN);
    }

    private static void mouth() {
        s.promise(11, "mouth");
        ThornHedge x = Checks.text(new ThornHedge(), "12,34;5,6");
        x.mouths();
        s.says("Of a sort of MOUTHS, what 0: PEOPLE");
        s.is("of 0", x.mouth(0, 0), 12);
        s.is("of 1", x.mouth(1, 0), 5);
        s.says("1: PURSE");
        s.is("of 0", x.mouth(0, 1), 34);
        s.is("of 1", x.mouth(1, 1), 6);
        s.says("NoSuchElementException: likewise");
        for (int i : new int[] {-1, 2, 3, 7, 8, Integer.MIN_VALUE, Integer.MAX_VALUE}) for (int what = 0; what < 2; what++) none(x, i, what, (y, a, b) -> y.mouth(a, b));
        for (int what : new int[] {-1, 2, Integer.MIN_VALUE, Integer.MAX_VALUE}) for (int i = 0; i < 2; i++) none(x, i, what, (y, a, b) -> y.mouth(a, b));
        for (Twins.Maker maker : MAKERS) s.refused("nothing changes", maker, y -> y.mouth(8, 0), Twins.THROWN);
    }

    private static void danger() {
        s.promise(12, "danger");
        s.says("DANGER of a CARRIER at a MILE now");
        ThornHedge x = Checks.made("73G", "03;14;22;35;46");
        x.guard(0, 1);
        x.guard(2, 5);
        int[][] due = {{45, 15, -2}, {25, 5, -2}, {-2, -2, -2}, {-2, -2, 25}, {12, 12, 12}};
        for (int i = 0; i < 5; i++) for (int m = 0; m < 3; m++) if (due[i][m] >= 0) s.is(i + " at " + m, x.danger(i, m), due[i][m]);
        x.plant(1, 2);
        s.is("now", x.danger(0, 1), 25);
        x.undo();
        Checks.text(x, "l*100+n").rule();
        s.is("by THE RULE now", x.danger(0, 1), 302);
        Checks.text(x, "").rule();
        s.says("-2: it can't be there");
        for (int i = 0; i < 5; i++) for (int m = 0; m < 3; m++) if (due[i][m] < 0) s.is(i + " at " + m, x.danger(i, m), -2);
        Checks.text(x, "r").weather();
        s.is("flood, in rain it can", x.danger(2, 0), 10);
        s.is("flood, in rain at a GATE", x.danger(2, 2), -2);
        s.says("NONE: none such");
        for (int i : new int[] {-1, 5, 6, 7, 8, Integer.MIN_VALUE, Integer.MAX_VALUE}) s.is("danger(" + i + ", 0)", x.danger(i, 0), -1);
        for (int m : new int[] {-1, 3, 4, 11, 12, Integer.MIN_VALUE, Integer.MAX_VALUE}) s.is("danger(0, " + m + ")", x.danger(0, m), -1);
        s.is("none such, where it could not be", x.danger(3, 3), -1);
    }

    // ---- sheets

    private static void sheet(int kind, int n, int f, int step, int due, int... hedges) {
        ThornHedge x = Checks.made("5G5", "");
        String what = "sheet(" + kind + ", " + n + ", " + f + ", " + step + ")";
        s.is(what, x.sheet(kind, n, f, step), due);
        for (int m = 0; m < hedges.length; m++) s.is(what + ", MILE " + m, x.mile(m, 0), hedges[m]);
        s.is(what + ", GATES stay", x.count(8), 2);
        s.is(what + ", nothing to undo", x.count(12), 0);
    }

    private static void sheet() {
        s.promise(13, "sheet");
        s.says("HEDGES of MILES 0, 1, .., as a sheet tells them: bytes (kind 0), shorts (1), ints (2) of n entries f, f + step");
        for (int kind = 0; kind <= 2; kind++) {
            sheet(kind, 3, 1, 2, 9, 1, 3, 5);
            sheet(kind, 3, 9, -4, 15, 9, 5, 1);
            sheet(kind, 12, 4, 0, 12, 4, 4, 4);
        }
        sheet(2, 3, Integer.MAX_VALUE, 1, 9, 9, 0, 0);
        s.says("of bytes, shorts the lowest bits, with their sign");
        sheet(0, 3, 0x103, 0x100, 9, 3, 3, 3);
        sheet(0, 3, 127, 1, 9, 9, 0, 0);
        sheet(0, 3, 0x7fffff05, -0x80, 10, 5, 0, 5);
        sheet(1, 3, 0x10003, 0x10000, 9, 3, 3, 3);
        sheet(1, 3, 32767, 1, 9, 9, 0, 0);
        sheet(1, 3, 128, 128, 27, 9, 9, 9);
        sheet(2, 3, 32768, 32768, 27, 9, 9, 9);
        s.says("put to 0 .. 9");
        sheet(2, 3, -1, 1, 1, 0, 0, 1);
        sheet(2, 3, 8, 1, 26, 8, 9, 9);
        sheet(0, 3, -5, 100, 9, 0, 9, 0);
        s.says("or a missing one (3)");
        sheet(3, 3, 7, 1, -3, 0, 0, 0);
        s.says("those behind it have 0");
        for (int kind = 0; kind <= 2; kind++) {
            sheet(kind, 2, 7, 0, 14, 7, 7, 0);
            sheet(kind, 1, 7, 0, 7, 7, 0, 0);
            sheet(kind, 0, 7, 0, 0, 0, 0, 0);
        }
        s.says("the sum of all");
        sheet(2, 3, 2, 3, 15, 2, 5, 8);
        sheet(2, 3, 5, 50, 23, 5, 9, 9);
        s.says("-2: n below 0 (of kinds 0 .. 2; nothing changes)");
        for (int kind = 0; kind <= 2; kind++) {
            int k = kind;
            for (int n : new int[] {-1, -12, Integer.MIN_VALUE}) for (Twins.Maker maker : MAKERS) s.refused("sheet(" + k + ", " + n + ")", maker, x -> x.sheet(k, n, 1, 1), -2);
        }
        s.says("-3: missing (all 0)");
        for (int n : new int[] {12, 0, -1, Integer.MIN_VALUE}) sheet(3, n, 4, 4, -3, 0, 0, 0);
        s.says("NONE: another kind, n above 12 (these first)");
        for (int kind : new int[] {-1, 4, Integer.MIN_VALUE, Integer.MAX_VALUE}) for (int n : new int[] {-1, 0, 12, 13}) for (Twins.Maker maker : MAKERS) s.refused("kind " + kind, maker, x -> x.sheet(kind, n, 1, 1), -1);
        for (int kind = 0; kind <= 3; kind++) {
            int k = kind;
            for (int n : new int[] {13, Integer.MAX_VALUE}) s.refused("kind " + kind + ", n " + n, Twins::some, x -> x.sheet(k, n, 1, 1), -1);
        }
    }

    // ---- acts

    private static void price() {
        s.promise(14, "price");
        s.says("CHEAP (what 0), DEAR (1) becomes v (0 .. 99): what it was");
        ThornHedge x = new ThornHedge();
        s.is("CHEAP was", x.price(0, 99), 5);
        s.is("CHEAP is", x.count(3), 99);
        s.is("DEAR is the same", x.count(4), 20);
        s.is("DEAR was", x.price(1, 0), 20);
        s.is("DEAR is", x.count(4), 0);
        s.is("CHEAP is the same", x.count(3), 99);
        s.is("CHEAP was then", x.price(0, 0), 99);
        s.is("DEAR was then", x.price(1, 99), 0);
        s.says("Refused: others");
        for (int v : new int[] {-1, 100, Integer.MIN_VALUE, Integer.MAX_VALUE}) for (int what = 0; what <= 1; what++) refusedOf(what, v, (y, a, b) -> y.price(a, b));
        for (int what : new int[] {-1, 2, Integer.MIN_VALUE, Integer.MAX_VALUE}) for (int v : new int[] {0, 50, 99}) refusedOf(what, v, (y, a, b) -> y.price(a, b));
    }

    private static void refusedOf(int a, int b, Two call) {
        for (Twins.Maker maker : MAKERS) s.refused("(" + a + ", " + b + ")", maker, x -> call.of(x, a, b), -1);
    }

    private static void guard() {
        s.promise(15, "guard");
        s.says("MEN at a MILE become n (0 .. 9): MEN of all MILES");
        ThornHedge x = Checks.made("5G5", "");
        int[][] due = {{0, 9, 9}, {1, 4, 13}, {2, 1, 14}, {0, 3, 8}, {0, 0, 5}, {2, 9, 13}};
        for (int[] d : due) {
            s.is("guard(" + d[0] + ", " + d[1] + ")", x.guard(d[0], d[1]), d[2]);
            s.is("MEN there", x.mile(d[0], 2), d[1]);
        }
        s.is("MEN elsewhere", x.mile(1, 2), 4);
        s.says("Refused: others");
        for (int n : new int[] {-1, 10, Integer.MIN_VALUE, Integer.MAX_VALUE}) refusedOf(0, n, (y, a, b) -> y.guard(a, b));
        for (int m : new int[] {-1, 12, Integer.MIN_VALUE, Integer.MAX_VALUE}) refusedOf(m, 1, (y, a, b) -> y.guard(a, b));
        for (int m = 4; m < 12; m++) {
            int at = m;
            s.refused("behind the last, " + m, Twins::some, y -> y.guard(at, 1), -1);
        }
    }

    private static void plant() {
        s.promise(16, "plant");
        s.says("HEDGE of a MILE is n (1 .. 9) more (9 at most): HEDGE");
        for (int h = 0; h <= 9; h++) {
            for (int n = 1; n <= 9; n++) {
                ThornHedge x = Checks.made("5" + h, "");
                s.is(n + " more than " + h, x.plant(1, n), Math.min(9, h + n));
                s.is("HEDGE", x.mile(1, 0), Math.min(9, h + n));
                s.is("another", x.mile(0, 0), 5);
            }
        }
        s.says("-2: it is a GATE");
        s.refused("plant(2, 1)", Twins::some, x -> x.plant(2, 1), -2);
        s.refused("plant(1, 9)", Twins::full, x -> x.plant(1, 9), -2);
        s.says("NONE: others");
        for (int n : new int[] {-1, 0, 10, Integer.MIN_VALUE, Integer.MAX_VALUE}) refusedOf(0, n, (y, a, b) -> y.plant(a, b));
        for (int m : new int[] {-1, 12, Integer.MIN_VALUE, Integer.MAX_VALUE}) refusedOf(m, 1, (y, a, b) -> y.plant(a, b));
        for (int m = 4; m < 12; m++) {
            int at = m;
            s.refused("behind the last, " + m, Twins::some, y -> y.plant(at, 1), -1);
        }
    }

    private static void gate() {
        s.promise(17, "gate");
        s.says("A GATE is made at a MILE (its HEDGE is 0 then), or taken away: how many there are then");
        ThornHedge x = Checks.made("567", "");
        s.is("made", x.gate(1), 1);
        s.is("its HEDGE", x.mile(1, 0), 0);
        s.is("it is there", x.mile(1, 1), 1);
        s.is("another HEDGE", x.mile(0, 0), 5);
        s.is("a second", x.gate(2), 2);
        s.is("bits", x.count(8), 6);
        s.is("taken away", x.gate(1), 1);
        s.is("it is gone", x.mile(1, 1), 0);
        s.is("no HEDGE came", x.mile(1, 0), 0);
        s.is("the other is there", x.count(8), 4);
        s.is("made again", x.gate(1), 2);
        s.says("Refused: none such");
        for (int m : new int[] {-1, 12, Integer.MIN_VALUE, Integer.MAX_VALUE}) for (Twins.Maker maker : MAKERS) s.refused("gate(" + m + ")", maker, y -> y.gate(m), -1);
        for (int m = 4; m < 12; m++) {
            int at = m;
            s.refused("behind the last, " + m, Twins::some, y -> y.gate(at), -1);
        }
    }

    private static void weeks() {
        s.promise(18, "weeks");
        s.says("n WEEKS (0 .. 60): loads that came over in these");
        for (int n : new int[] {0, 1, 2, 59, 60}) {
            ThornHedge x = Checks.made("9", "43;01");
            s.is("weeks(" + n + ")", x.weeks(n), 3 * n);
            s.is("WEEK", x.count(5), n);
            s.is("OVER", x.count(6), 3 * n);
            s.is("loads in these, not in others", x.weeks(1), 3);
        }
        s.says("the ROW: CARRIERS (bits) that went in some of these, HEDGES together then");
        // baskets go at HEDGE 2 (15 against 10), not at 3; flood in rain
        ThornHedge x = Checks.made("2G", "01;29");
        Checks.text(x, "fffr").weather();
        x.weeks(0);
        s.row("no WEEKS", x, 0, 2);
        x.weeks(3);
        s.row("three fair ones", x, 1, 2);
        x.weeks(1);
        s.row("rain", x, 3, 4);
        x.weeks(3);
        s.row("three fair ones again", x, 0, 4);
        x.weeks(5);
        s.row("rain in the first alone", x, 2, 8);
        ThornHedge both = Checks.made("2G", "01;29");
        Checks.text(both, "fffr").weather();
        both.weeks(60);
        s.row("in some of these", both, 3, 18);
        s.says("Refused: another n");
        for (int n : new int[] {-1, 61, Integer.MIN_VALUE, Integer.MAX_VALUE}) for (Twins.Maker maker : MAKERS) s.refused("weeks(" + n + ")", maker, y -> y.weeks(n), -1);
    }

    // ---- log

    private static ThornHedge logged(String text, int done, int refused, int over) {
        ThornHedge x = Checks.made("5G3", "41");
        s.is("'" + text + "'", Checks.text(x, text).log(), done);
        s.row("'" + text + "'", x, refused, over);
        return x;
    }

    private static void logDone() {
        s.promise(19, "log");
        s.says("THE TEXT tells A LOG (an empty one: nothing), signs one behind another");
        s.is("nothing can be undone", logged("", 0, 0, 0).count(12), 0);
        s.is("two acts", logged("w2w3", 2, 0, 5).count(5), 5);
        s.is("THE TEXT is empty", logged("w2w3", 2, 0, 5).count(14), 0);
        s.says("w and a digit (weeks())");
        for (int n = 0; n <= 9; n++) s.is("w" + n, logged("w" + n, 1, 0, n).count(5), n);
        s.says("m, a letter a .. l (MILE) and a digit (guard())");
        for (int n = 0; n <= 9; n++) s.is("mc" + n, logged("mc" + n, 1, 0, 0).mile(2, 2), n);
        for (int m = 0; m < 12; m++) {
            ThornHedge x = Checks.made(Checks.times("0", 12), "");
            s.is("each letter", Checks.text(x, "m" + (char) ('a' + m) + "7").log(), 1);
            s.is("its MILE", x.mile(m, 2), 7);
        }
        s.says("p, a letter and a digit 1 .. 9 (plant())");
        for (int n = 1; n <= 9; n++) s.is("pc" + n, logged("pc" + n, 1, 0, 0).mile(2, 0), Math.min(9, 3 + n));
        s.says("g and a letter (gate())");
        s.is("made", logged("ga", 1, 0, 0).count(8), 3);
        s.is("taken away", logged("gb", 1, 0, 0).count(8), 0);
        s.says("c or d and two digits (CHEAP, DEAR)");
        for (int v : new int[] {0, 7, 42, 99}) {
            String digits = "" + v / 10 + v % 10;
            s.is("CHEAP", logged("c" + digits, 1, 0, 0).count(3), v);
            s.is("DEAR is the same", logged("c" + digits, 1, 0, 0).count(4), 20);
            s.is("DEAR", logged("d" + digits, 1, 0, 0).count(4), v);
            s.is("CHEAP is the same", logged("d" + digits, 1, 0, 0).count(3), 5);
        }
        s.says("they are done one by one, till one is refused (it answers below 0): how many were done");
        ThornHedge x = logged("w2ma4pb1w9mc5", 2, 1, 2);
        s.is("ahead of it, WEEK", x.count(5), 2);
        s.is("ahead of it, MEN", x.mile(0, 2), 4);
        s.is("behind it", x.mile(2, 2), 0);
        s.is("no such MILE", logged("md1w1", 0, 1, 0).count(5), 0);
        s.is("no such MILE, plant()", logged("w1pd1w1", 1, 1, 1).count(5), 1);
        s.is("no such MILE, gate()", logged("w1glw1", 1, 1, 1).count(5), 1);
        s.is("one by one: a GATE that was taken away", logged("gbpb4", 2, 0, 0).mile(1, 0), 4);
        s.is("one by one: MEN ahead of WEEKS", logged("ma8w3", 2, 0, 0).count(5), 3);
        s.is("one by one: each as all is then", logged("pa1pa2gbgb", 4, 0, 0).mile(0, 0), 8);
        ThornHedge ruled = Checks.made("0", "01");
        Checks.text(ruled, "9").rule();
        Checks.text(ruled, "15").rule();
        s.is("by THE RULE", Checks.text(ruled, "w3").log(), 1);
        s.row("by THE RULE", ruled, 0, 0);
        s.says("the ROW: 1 if one was refused, else 0");
        logged("w1pb1", 1, 1, 1);
        logged("pb1", 0, 1, 0);
        logged("w1pa1", 2, 0, 1);
        s.says("OVER then");
        ThornHedge y = logged("w4", 1, 0, 4);
        Checks.text(y, "w5").log();
        s.row("of all WEEKS, not of these alone", y, 0, 9);
        Checks.text(y, "").log();
        s.row("with an empty one", y, 0, 9);
    }

    private static void logFaults() {
        s.says("-1 - p: the sign at p can't stand there");
        faults(ThornHedge::log, -1, "x", "0", "W1", "xw1");
        faults(ThornHedge::log, -2, "wx", "mm1", "m1", "pm1", "gm", "g1", "cx1", "dd1");
        faults(ThornHedge::log, -3, "max", "maa", "pa0", "pax", "c1x", "d1d", "w1x", "w12", "ga1");
        faults(ThornHedge::log, -4, "ma11", "pa1x", "c123", "w1wx");
        s.says("its end, if it ends too early");
        faults(ThornHedge::log, -2, "w", "m", "p", "g", "c", "d");
        faults(ThornHedge::log, -3, "ma", "pa", "c1", "d1");
        faults(ThornHedge::log, -4, "w1w", "gam");
        s.says("60, if it has more and the first 60 could go on or end");
        String sixty = Checks.times("c01d02", 10);
        for (String more : new String[] {"w", "w1", "x", "5", Checks.times("w1", 10)}) faults(ThornHedge::log, -61, sixty + more);
        for (String more : new String[] {"", "1", "x", "12"}) faults(ThornHedge::log, -61, sixty.substring(0, 57) + "w1c" + more);
        faults(ThornHedge::log, -60, sixty.substring(0, 57) + "w1x", sixty.substring(0, 57) + "w1xw1");
        s.is("60 signs", Checks.text(new ThornHedge(), sixty).log(), 20);
        s.says("nothing is done then");
        for (String text : new String[] {"w1ma1c", "w1ma1x", "w1ma1gm", "w1ma1pa0", sixty + "w1"}) {
            ThornHedge x = Checks.made("5G3", "41");
            s.is("'" + text + "'", Checks.text(x, text).log() < 0, true);
            s.is("WEEK, MEN, CHEAP, what can be undone", x.count(5) + x.count(7) + x.count(3) + x.count(12), 5);
        }
    }

    // ---- undo

    private static final String[] ACTS = {"price", "price of DEAR", "guard", "plant", "gate", "gate away", "weeks", "log"};

    private static long act(ThornHedge x, int which) {
        switch (which) {
            case 0: return x.price(0, 1);
            case 1: return x.price(1, 60);
            case 2: return x.guard(1, 8);
            case 3: return x.plant(0, 2);
            case 4: return x.gate(0);
            case 5: return x.gate(2);
            case 6: return x.weeks(3);
            default: return Checks.text(x, "w2gamc3d77").log();
        }
    }

    private static ThornHedge grounds() {
        ThornHedge x = Checks.made("52G", "14;46");
        Checks.text(x, "rdf").weather();
        return x;
    }

    private static void undo() {
        s.promise(20, "undo");
        s.says("The latest price(), guard(), plant(), gate(), weeks() or log()");
        for (int i = 0; i < ACTS.length; i++) {
            ThornHedge x = grounds();
            s.is(ACTS[i] + " is done", act(x, i) >= 0, true);
            s.is(ACTS[i] + " can be undone", x.count(12), 1);
            for (int j = 0; j < ACTS.length; j++) {
                ThornHedge y = grounds(), twin = grounds();
                act(y, i);
                act(twin, i);
                if (act(y, j) < 0) continue;
                s.is(ACTS[j] + " behind " + ACTS[i] + " is undone", y.undo(), 1);
                s.same(ACTS[j] + " behind " + ACTS[i] + ", the latest", Twins.all(y, false, false), Twins.all(twin, false, false));
            }
        }
        ThornHedge other = grounds();
        other.sheet(2, 1, 1, 0);
        other.keep(0);
        other.years(1, 60);
        other.goes();
        Checks.text(other, "01").carriers();
        Checks.text(other, "d").weather();
        Checks.text(other, "1,1").mouths();
        Checks.text(other, "h").rule();
        other.heard(0, 0);
        s.is("no other call", other.undo(), -1);
        s.says("of 15 that are kept, the latest ones");
        for (int acts = 14; acts <= 17; acts++) {
            ThornHedge x = new ThornHedge();
            for (int i = 1; i <= acts; i++) x.price(1, i);
            int kept = Math.min(15, acts);
            s.is("of " + acts, x.count(12), kept);
            for (int i = 1; i <= kept; i++) s.is("of " + acts + ", left", x.undo(), kept - i);
            s.is("of " + acts + ", DEAR then", x.count(4), acts - kept == 0 ? 20 : acts - kept);
            s.is("of " + acts + ", no more", x.undo(), -1);
        }
        s.says("such as were done");
        Twins.Asked[] refused = {x -> x.price(0, 100), x -> x.guard(0, 10), x -> x.plant(0, 0), x -> x.plant(2, 1), x -> x.gate(3), x -> x.weeks(61), x -> Checks.text(x, "x").log()};
        for (int i = 0; i < refused.length; i++) {
            ThornHedge x = grounds();
            s.is("refused, " + i, refused[i].of(x) < 0, true);
            s.is("refused, " + i + ", can't be undone", x.count(12), 0);
        }
        s.says("log() of which one act was done, as one");
        String[] logs = {"w1", "w1w1w1", "ma1pc1w1", "pc1", "md1w1", ""};
        for (int i = 0; i < logs.length; i++) {
            ThornHedge x = grounds();
            Checks.text(x, logs[i]).log();
            s.is("'" + logs[i] + "'", x.count(12), i < 3 ? 1 : 0);
        }
    }

    private static void undoOf() {
        s.says("is undone (HEDGES, GATES, MEN, CHEAP, DEAR, OVER, WEEK are as ahead of it)");
        ThornHedge x = grounds();
        x.guard(0, 4);
        x.weeks(2);
        int[] due = new int[15];
        for (int what = 0; what < 15; what++) due[what] = x.count(what);
        Checks.text(x, "pa1gbmc9c01d99w7").log();
        for (int what = 3; what <= 9; what++) s.is("count(" + what + ") was changed", x.count(what) != due[what], true);
        x.undo();
        for (int what = 0; what <= 12; what++) s.is("count(" + what + ") is as ahead of it", x.count(what), due[what]);
        for (int m = 0; m < 3; m++) s.is("MEN at " + m, x.mile(m, 2), m == 0 ? 4 : 0);
        x.sheet(2, 3, 9, 0);
        x.undo();
        s.is("HEDGES are as ahead of it, whatever came then", x.count(9), 7);
        s.says("how many are left that can be");
        ThornHedge y = grounds();
        for (int i = 0; i < 5; i++) y.guard(0, i);
        for (int i = 4; i >= 0; i--) s.is("left", y.undo(), i);
        s.says("Refused: none");
        s.refused("none", ThornHedge::new, z -> z.undo(), -1);
        s.refused("none, of a line", SentencesOfActsTest::grounds, z -> z.undo(), -1);
        s.says("line() and again() forget them, if they are not refused");
        ThornHedge z = grounds();
        z.keep(1);
        z.guard(0, 1);
        Checks.text(z, "").line();
        Checks.text(z, "5x").line();
        z.again(0);
        z.again(3);
        s.is("they are refused", z.count(12), 1);
        z.again(1);
        s.is("again()", z.count(12), 0);
        s.is("behind again()", z.undo(), -1);
        z.guard(0, 1);
        Checks.text(z, "52G").line();
        s.is("line()", z.count(12), 0);
        s.is("behind line()", z.undo(), -1);
    }
}
