/** Promises 1 to 13, 45 and 46: texts, what they tell, and what can be seen of it. */
public final class TellingTest {
    private static final Checks c = new Checks("TellingTest");

    public static void main(String[] args) {
        promise1();
        promise2();
        promise3();
        promise4();
        promise5();
        promise6();
        promise7();
        promise8Faults();
        promise8Worth();
        promise9();
        promise10();
        promise11();
        promise12();
        promise13();
        promise45();
        promise46();
        c.end();
    }

    private static void promise1() {
        ThornHedge x = new ThornHedge();
        int[] due = {1, 0, 0, 5, 20, 0, 0, 0, 0, 0, 1, 0, 0, 0, 0};
        for (int what = 0; what < due.length; what++) c.due("1: count(" + what + ")", x.count(what), due[what]);
        for (int what = 0; what < 3; what++) c.due("1: mile(0, " + what + ")", x.mile(0, what), 0);
        c.noSuchElement("1: mile(1, 0)", () -> x.mile(1, 0));
        c.noSuchElement("1: carrier(0, 0)", () -> x.carrier(0, 0));
        c.noSuchElement("1: mouth(0, 0)", () -> x.mouth(0, 0));
        c.noSuchElement("1: row(0)", () -> x.row(0));
        c.due("1: NONE", ThornHedge.NONE, -1);
    }

    private static void promise2() {
        ThornHedge x = new ThornHedge();
        for (int i = 1; i <= 20; i++) c.due("2: sign " + i, x.sign('5' << 24 | '6' << 16 | '7' << 8 | 'G'), 4 * i);
        c.due("2: an eighty-first sign", x.sign(0), -1);
        c.due("2: refused, nothing changes", x.count(14), 80);
        x.end(77);
        c.due("2: 81 signs would be", x.sign(0), -1);
        x.end(76);
        c.due("2: room for four", x.sign(0), 80);
        x.end(4);
        c.due("2: line", x.line(), 4);
        c.due("2: the highest byte first", x.mile(0, 0), 5);
        c.due("2: the second byte", x.mile(1, 0), 6);
        c.due("2: the third byte", x.mile(2, 0), 7);
        c.due("2: the lowest byte", x.mile(3, 1), 1);
        x.sign(0xB5B6B7B8);
        c.due("2: signs above 127 are no digits", x.line(), -1);
    }

    private static void promise3() {
        ThornHedge x = new ThornHedge();
        c.due("3: none of none", x.end(0), true);
        c.due("3: one of none", x.end(1), false);
        x.sign('1' << 24 | '2' << 16 | '3' << 8 | '4');
        c.due("3: five of four", x.end(5), false);
        c.due("3: below 0", x.end(-1), false);
        c.due("3: far below 0", x.end(Integer.MIN_VALUE), false);
        c.due("3: refused, nothing changes", x.count(14), 4);
        c.due("3: four of four", x.end(4), true);
        c.due("3: two of four", x.end(2), true);
        c.due("3: the first two", x.line(), 2);
        c.due("3: the first", x.mile(0, 0), 1);
    }

    private static void promise4() {
        ThornHedge x = new ThornHedge();
        String[] texts = {"", "x", "5x", "G5g", "0123456789GG5", "0123456789GGx", "01234567890x5", "5 5"};
        int[] due = {-1, -1, -2, -3, -13, -13, -12, -2};
        for (int i = 0; i < texts.length; i++) {
            c.due("4: line '" + texts[i] + "'", Checks.text(x, texts[i]).line(), due[i]);
            c.due("4: the text is empty then", x.count(14), 0);
        }
        c.due("4: nothing changed", x.count(0), 1);
        c.due("4: twelve signs", Checks.text(x, "0123456789GG").line(), 12);
        c.due("4: gates", x.count(8), 3 << 10);
        c.due("4: hedges", x.count(9), 45);
        Checks.text(x, "19").carriers();
        Checks.text(x, "rd").weather();
        x.price(0, 1);
        x.guard(3, 4);
        x.heard(0, 1);
        x.keep(1);
        x.weeks(2);
        c.due("4: refused, what was stays", Checks.text(x, "?").line(), -1);
        c.due("4: week stays", x.count(5), 2);
        c.due("4: acts stay", x.count(12), 3);
        c.due("4: anew", Checks.text(x, "7").line(), 1);
        int[] then = {1, 1, 0, 1, 20, 0, 0, 0, 0, 7, 2, 1, 0, 2, 0};
        for (int what = 0; what < then.length; what++) c.due("4: anew, count(" + what + ")", x.count(what), then[what]);
        c.due("4: nothing to undo", x.undo(), -1);
        c.due("4: nothing is kept", x.again(1), false);
    }

    private static void promise5() {
        ThornHedge x = new ThornHedge();
        String[] texts = {"", "5", "51", "00", "0", "01;", "01x", "01;0", "01;00", "01,02", Checks.times("49;", 8), Checks.times("49;", 8) + "4", "x"};
        int[] due = {0, -1, -1, -2, -2, -4, -3, -5, -5, -3, -24, -24, -1};
        for (int i = 0; i < texts.length; i++) {
            c.due("5: carriers '" + texts[i] + "'", Checks.text(x, texts[i]).carriers(), due[i]);
            c.due("5: the text is empty then", x.count(14), 0);
            c.due("5: nothing came", x.count(1), 0);
        }
        c.due("5: six", Checks.text(x, "01;12;23;34;45;06").carriers(), 6);
        c.due("5: no room for the third", Checks.text(x, "01;02;03").carriers(), -7);
        c.due("5: no room for the third, which is wrong, too", Checks.text(x, "01;02;0x").carriers(), -7);
        c.due("5: no room, far too long", Checks.text(x, Checks.times("01;", 12)).carriers(), -7);
        c.due("5: nothing of it came", x.count(1), 6);
        c.due("5: two more", Checks.text(x, "17;48").carriers(), 2);
        for (int i = 0; i < 8; i++) {
            c.due("5: kind of " + i, x.carrier(i, 0), new int[] {0, 1, 2, 3, 4, 0, 1, 4}[i]);
            c.due("5: load of " + i, x.carrier(i, 1), i + 1);
        }
        c.due("5: full", Checks.text(x, "01").carriers(), -1);
        c.due("5: full, nothing told", Checks.text(x, "").carriers(), 0);
        c.due("5: eight at once", Checks.text(new ThornHedge(), "01;12;23;34;45;06;17;28").carriers(), 8);
    }

    private static void promise6() {
        ThornHedge x = new ThornHedge();
        String twenty = Checks.times("fdra", 5);
        String[] texts = {"", "x", "fx", "fF", twenty + "f", twenty + "x", twenty.substring(1) + "x"};
        int[] due = {-1, -1, -2, -2, -21, -21, -20};
        for (int i = 0; i < texts.length; i++) {
            c.due("6: weather '" + texts[i] + "'", Checks.text(x, texts[i]).weather(), due[i]);
            c.due("6: the text is empty then", x.count(14), 0);
        }
        c.due("6: nothing changed", x.count(10), 1);
        c.due("6: twenty", Checks.text(x, twenty).weather(), 20);
        c.due("6: twenty are there", x.count(10), 20);
        c.due("6: a shorter one", Checks.text(x, "rrd").weather(), 3);
        Checks.text(x, "5").line();
        int[] hedges = {6, 7, 6, 7, 8, 7};
        for (int i = 0; i < hedges.length; i++) {
            x.weeks(1);
            c.due("6: hedge behind week " + i, x.mile(0, 0), hedges[i]);
        }
    }

    private static void promise7() {
        ThornHedge x = new ThornHedge();
        String full = Checks.times("10,10;", 7) + "10,10";
        String[] texts = {"", "0,5", "00,5", "0", "100,5", "5", "5,", "5,5;", "5,123", "5;5", "5,x", "x", ",5", "5,5,", "5,5;0,1", "5,5;00,1", full + ";", full + "0", full + ";1,1"};
        int[] due = {0, -1, -2, -1, -3, -2, -3, -5, -5, -2, -3, -1, -1, -4, -5, -6, -48, -48, -48};
        for (int i = 0; i < texts.length; i++) {
            c.due("7: mouths '" + texts[i] + "'", Checks.text(x, texts[i]).mouths(), due[i]);
            c.due("7: the text is empty then", x.count(14), 0);
            c.due("7: nothing came", x.count(2), 0);
        }
        c.due("7: all eight", Checks.text(new ThornHedge(), full).mouths(), 8);
        c.due("7: six", Checks.text(x, "1,0;09,00;10,9;99,99;05,7;6,66").mouths(), 6);
        int[] people = {1, 9, 10, 99, 5, 6}, purses = {0, 0, 9, 99, 7, 66};
        for (int i = 0; i < 6; i++) {
            c.due("7: people of " + i, x.mouth(i, 0), people[i]);
            c.due("7: purse of " + i, x.mouth(i, 1), purses[i]);
        }
        c.due("7: no room for the third", Checks.text(x, "1,1;2,2;3,3").mouths(), -9);
        c.due("7: no room for the third, far too long", Checks.text(x, Checks.times("1,1;", 15)).mouths(), -9);
        c.due("7: nothing of it came", x.count(2), 6);
        c.due("7: two more", Checks.text(x, "1,1;2,2").mouths(), 2);
        c.due("7: full", Checks.text(x, "1,1").mouths(), -1);
        c.due("7: full, nothing told", Checks.text(x, "").mouths(), 0);
    }

    private static void promise8Faults() {
        ThornHedge x = new ThornHedge();
        String forty = Checks.times("h+", 19) + "12";
        String[] texts = {"z", "h+", "+h", "h h", "hh", "1234", "1+1234", "((((h))))", "(((((h", "(h", "(h))", ")", "()", "h<g<l", "h<g=l", "(h<g)<l",
            "h<(g<l)", "h<g+l>n", "-", "--", "---h", "h--g", "h*-g", "h**g", "h(g)", "5h", "h5", "", forty, forty + "3", forty + "x", forty.substring(1) + "+",
            forty.substring(1) + "+h", Checks.times("(", 3) + Checks.times("-", 38), "h=g", "h==g", "1<2)", "H", Checks.times("-", 39) + "5", Checks.times("-", 40) + "5"};
        int[] due = {-1, -3, -1, -2, -2, -4, -6, 0, -5, -3, -4, -1, -2, -4, -4, 0,
            0, -6, -2, -3, 0, 0, 0, -3, -2, -2, -2, 0, 0, -41, -41, -1,
            -1, -41, 0, -3, -4, -1, 0, -41};
        for (int i = 0; i < texts.length; i++) {
            c.due("8: rule '" + texts[i] + "'", Checks.text(x, texts[i]).rule(), due[i]);
            c.due("8: the text is empty then", x.count(14), 0);
        }
        String ends = Checks.times("h+", 20);
        c.due("8: forty signs that end too early", Checks.text(x, ends).rule(), -41);
        c.due("8: compared in each", Checks.text(x, "((h<g)+(g>h))=(h=g)").rule(), 0);
        c.due("8: compared twice inside", Checks.text(x, "(h<1)+(h<g<l)").rule(), -11);
        c.due("8: deep, but not in one another", Checks.text(x, "((h)+(g))*(((l)))").rule(), 0);
        Checks.text(x, "7").rule();
        c.due("8: refused", Checks.text(x, "9+").rule(), -3);
        Checks.text(x, "09").carriers();
        c.due("8: refused, the rule stays", x.danger(0, 0), 7);
        Checks.text(x, "").rule();
        x.guard(0, 2);
        x.plant(0, 3);
        c.due("8: none, the usual one", x.danger(0, 0), 35);
    }

    private static void promise8Worth() {
        // h 7, g 3, l 6, w 2, n 1
        ThornHedge x = Checks.made("74", "06");
        x.weeks(60);
        x.weeks(6);
        x.guard(0, 3);
        x.guard(1, 9);
        String[] rules = {"h", "g", "l", "w", "n", "h*100+g*10+l", "999+h", "0-h", "-h", "--h", "h-g-l+9", "100/h/g", "100/(h/g)", "h/0", "h/(g-3)+5", "-7/2+9",
            "9-7/2", "h>g", "h<g", "h=7", "h=g", "(h>g)*5", "2+3*4", "(2+3)*4", "h+g<l*2", "h-g>l-g", "-h*-g", "1-2*3<0", "999*999*999*999", "999*999*999",
            "007", "5--3", "5---3", "((((9))))", "8/-3+9", "-(h-9)", "h*(g+(l*(w+(n))))", "999*999*999*999*999/999", "0/h+1", "2<3+4", "(h>g)*8+(g<l)*4+(h=7)*2", "(h<g)=(l<g)"};
        int[] due = {7, 3, 6, 2, 1, 736, 999, 0, 0, 7, 7, 4, 50, 0, 5, 6,
            6, 1, 0, 1, 0, 5, 14, 20, 1, 1, 21, 1, wrapped(999 * 999 * 999 * 999), wrapped(999 * 999 * 999),
            7, 8, 2, 9, 7, 2, 147, wrapped(999 * 999 * 999 * 999 * 999 / 999), 1, 1, 14, 1};
        for (int i = 0; i < rules.length; i++) {
            c.due("8: '" + rules[i] + "' can be", Checks.text(x, rules[i]).rule(), 0);
            c.due("8: risk by '" + rules[i] + "'", x.danger(0, 0), due[i]);
        }
    }

    private static int wrapped(int v) {
        return Math.max(0, Math.min(999, v));
    }

    private static void promise9() {
        ThornHedge x = Checks.made("5G3", "");
        x.guard(1, 7);
        c.due("9: hedge", x.mile(0, 0), 5);
        c.due("9: hedge of a gate", x.mile(1, 0), 0);
        c.due("9: gate", x.mile(1, 1), 1);
        c.due("9: no gate", x.mile(2, 1), 0);
        c.due("9: men", x.mile(1, 2), 7);
        int[][] none = {{-1, 0}, {3, 0}, {0, 3}, {0, -1}, {Integer.MIN_VALUE, 0}, {Integer.MAX_VALUE, 2}};
        for (int[] n : none) c.noSuchElement("9: mile(" + n[0] + ", " + n[1] + ")", () -> x.mile(n[0], n[1]));
    }

    private static void promise10() {
        ThornHedge x = Checks.made("52G", "03;14;22;35;46");
        // dangers: 25 and 10; 10 and 5; no rain; 0; 0
        int[] goal = {1, 1, -1, 2, 0}, least = {10, 5, -1, 0, 0};
        for (int i = 0; i < 5; i++) {
            c.due("10: where " + i + " goes", x.carrier(i, 2), goal[i]);
            c.due("10: least danger of " + i, x.carrier(i, 3), least[i]);
        }
        x.price(1, 8);
        c.due("10: 9 is not more than 10", x.carrier(0, 2), -1);
        c.due("10: the danger is all the same", x.carrier(0, 3), 10);
        c.due("10: 12 is more than 5", x.carrier(1, 2), 1);
        Checks.text(x, "10").rule();
        x.price(1, 20);
        c.due("10: of equal ones the first", x.carrier(0, 2), 0);
        ThornHedge even = Checks.made("2", "01");
        even.price(1, 15);
        c.due("10: as much is not more", even.carrier(0, 2), -1);
        even.price(1, 16);
        c.due("10: one more is", even.carrier(0, 2), 0);
        even.price(0, 30);
        c.due("10: dear salt cheaper than cheap salt", even.carrier(0, 2), -1);
        even.gate(0);
        c.due("10: no mile where it can", even.carrier(0, 3), -1);
        int[][] none = {{-1, 0}, {5, 0}, {0, 4}, {0, -1}, {Integer.MAX_VALUE, 1}};
        for (int[] n : none) c.noSuchElement("10: carrier(" + n[0] + ", " + n[1] + ")", () -> x.carrier(n[0], n[1]));
    }

    private static void promise11() {
        ThornHedge x = Checks.text(new ThornHedge(), "12,34;5,6");
        x.mouths();
        c.due("11: people", x.mouth(0, 0), 12);
        c.due("11: purse", x.mouth(0, 1), 34);
        c.due("11: purse of the second", x.mouth(1, 1), 6);
        int[][] none = {{-1, 0}, {2, 0}, {0, 2}, {0, -1}, {Integer.MIN_VALUE, 1}};
        for (int[] n : none) c.noSuchElement("11: mouth(" + n[0] + ", " + n[1] + ")", () -> x.mouth(n[0], n[1]));
    }

    private static void promise12() {
        ThornHedge x = Checks.made("73G", "03;14;22;35;46");
        Checks.text(x, "fr").weather();
        x.guard(0, 1);
        x.guard(2, 5);
        int[][] due = {{45, 15, -2}, {25, 5, -2}, {-2, -2, -2}, {-2, -2, 25}, {12, 12, 12}};
        for (int i = 0; i < 5; i++) for (int m = 0; m < 3; m++) c.due("12: danger of " + i + " at " + m, x.danger(i, m), due[i][m]);
        x.price(1, 0);
        x.weeks(1);
        int[] rain = {10, 0, -2};
        for (int m = 0; m < 3; m++) c.due("12: in rain, at " + m, x.danger(2, m), rain[m]);
        x.weeks(1);
        c.due("12: rain grew the hedge of the gate, which counts for bread", x.danger(3, 2), 27);
        Checks.text(x, "l*100+n*10+w").rule();
        c.due("12: load, other miles with men, week", x.danger(0, 0), 312);
        c.due("12: at a mile without men", x.danger(0, 1), 322);
        Checks.text(x, "35").rule();
        c.due("12: half of the risk, cut", x.danger(3, 2), 17);
        Checks.text(x, "999").rule();
        c.due("12: half of the greatest risk", x.danger(3, 2), 499);
        int[][] none = {{-1, 0}, {5, 0}, {0, -1}, {0, 3}, {Integer.MIN_VALUE, Integer.MAX_VALUE}};
        for (int[] n : none) c.due("12: danger(" + n[0] + ", " + n[1] + ")", x.danger(n[0], n[1]), -1);
    }

    private static void promise13() {
        ThornHedge x = Checks.made("5555", "");
        int[][] calls = {{4, 0, 0, 0}, {-1, 0, 0, 0}, {0, 13, 0, 0}, {3, 13, 0, 0}, {4, -1, 0, 0}, {0, -1, 1, 1}, {1, -5, 1, 1}, {2, Integer.MIN_VALUE, 1, 1}};
        int[] due = {-1, -1, -1, -1, -1, -2, -2, -2};
        for (int i = 0; i < calls.length; i++) {
            int[] a = calls[i];
            c.due("13: refused sheet " + i, x.sheet(a[0], a[1], a[2], a[3]), due[i]);
            c.due("13: nothing changed", x.count(9), 20);
        }
        c.due("13: a sheet of ints", x.sheet(2, 4, 1, 2), 16);
        hedges("13: ints", x, 1, 3, 5, 7);
        c.due("13: a short sheet", x.sheet(2, 2, 4, 0), 8);
        hedges("13: short", x, 4, 4, 0, 0);
        c.due("13: a long sheet", x.sheet(2, 12, 4, -3), 5);
        hedges("13: long", x, 4, 1, 0, 0);
        c.due("13: above 9, below 0", x.sheet(2, 4, 20, -9), 20);
        hedges("13: put to 0 .. 9", x, 9, 9, 2, 0);
        c.due("13: bytes", x.sheet(0, 4, 0x105, 0x7e), 15);
        hedges("13: the lowest bits, with their sign", x, 5, 0, 1, 9);
        c.due("13: shorts", x.sheet(1, 4, 0x10003, 0x8001), 8);
        hedges("13: shorts with their sign", x, 3, 0, 5, 0);
        c.due("13: ints that go round", x.sheet(2, 4, Integer.MAX_VALUE, 3), 9);
        hedges("13: ints with their sign", x, 9, 0, 0, 0);
        x.sheet(2, 4, 5, 0);
        c.due("13: missing", x.sheet(3, -7, 5, 5), -3);
        hedges("13: all 0", x, 0, 0, 0, 0);
        c.due("13: none told", x.sheet(1, 0, 5, 5), 0);
        c.due("13: cannot be undone", x.count(12), 0);
        ThornHedge gates = Checks.made("G1", "");
        c.due("13: of a gate, too", gates.sheet(0, 1, 6, 0), 6);
        hedges("13: of a gate", gates, 6, 0);
        c.due("13: it stays a gate", gates.mile(0, 1), 1);
    }

    private static void hedges(String what, ThornHedge x, int... due) {
        for (int m = 0; m < due.length; m++) c.due(what + ", mile " + m, x.mile(m, 0), due[m]);
    }

    private static void promise45() {
        ThornHedge x = Checks.made("4G5G", "11;22;33");
        Checks.text(x, "1,1;2,2").mouths();
        Checks.text(x, "fffdr").weather();
        x.price(0, 3);
        x.price(1, 30);
        x.guard(0, 2);
        x.guard(1, 3);
        x.heard(1, 1);
        x.weeks(4);
        x.sign(0);
        // each week camels go to mile 2 and bread to mile 3: 4 loads; mile 2 is eaten, mile 0 dries once
        int[] due = {4, 3, 2, 3, 30, 4, 16, 5, 10, 3, 5, 1, 5, 2, 4};
        for (int what = 0; what < due.length; what++) c.due("45: count(" + what + ")", x.count(what), due[what]);
        for (int what : new int[] {-1, 15, 100, Integer.MIN_VALUE, Integer.MAX_VALUE}) c.due("45: count(" + what + ")", x.count(what), -100);
    }

    private static void promise46() {
        ThornHedge x = Checks.made("52G", "03;14");
        x.goes();
        c.row("46: goes()", x, 7, 1);
        c.noSuchElement("46: row(-1)", () -> x.row(-1));
        c.noSuchElement("46: row of the least int", () -> x.row(Integer.MIN_VALUE));
        x.ahead(100);
        x.keeps();
        x.count(3);
        x.danger(0, 0);
        c.row("46: a refused call, and one that tells none, leave it", x, 7, 1);
        x.beats(0);
        c.row("46: a longer one", x, 0, 0, 0);
        x.walls();
        c.row("46: a shorter one", x, 3);
    }
}
