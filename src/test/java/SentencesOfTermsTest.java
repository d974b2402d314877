import java.lang.reflect.Field;
import java.util.ArrayList;
import java.util.List;
import java.util.regex.Matcher;
import java.util.regex.Pattern;

/** The document from its first line to the end of its terms, sentence by sentence, and its last section. */
public final class SentencesOfTermsTest {
    private static final Sentences s = new Sentences("SentencesOfTermsTest");
    private static final Twins.Maker[] MAKERS = {ThornHedge::new, Twins::some, Twins::full};

    public static void main(String[] args) {
        s.run(() -> headings(), () -> whatItIs(), () -> publicFace());
        s.begin("Terms");
        s.run(() -> miles(), () -> carriers(), () -> weather(), () -> mouths(), () -> pricesAndWeek(), () -> ruleActs(), () -> ruleThings(),
            () -> danger(), () -> goes(), () -> weekCarriers(), () -> weekWeather(), () -> rows(), () -> questions(), () -> refusedCalls(),
            () -> calls());
        s.begin("Not promised");
        s.aside("How the state is held", "after its 512th call");
        s.end();
    }

    private static void headings() {
        List<String> due = new ArrayList<>();
        for (String name : "What it is/The public face/Terms".split("/")) due.add(name);
        String calls = "A new object/sign/end/line/carriers/weather/mouths/rule/mile/carrier/mouth/danger/sheet/price/guard/plant/gate/weeks/log/undo/goes/ahead/holds/keeps/tax/"
            + "without/beats/thorns/walls/posts/rounds/reward/pays/caught/lasts/heard/forget/fits/ask/law/rests/years/keep/again/count/row";
        int number = 0;
        for (String call : calls.split("/")) due.add("Promise " + ++number + ": " + call);
        due.add("Not promised");
        s.same("the sections of the document", s.headings().toString(), due.toString());
    }

    private static void whatItIs() {
        s.begin("What it is");
        s.aside("Thorn hedge: to keep cheap salt", "years drawn by a seed");
        s.says("An object is used for at most 512 calls after it has been made");
        ThornHedge x = new ThornHedge();
        for (int i = 1; i <= 511; i++) s.is("call " + i, x.price(1, i % 100), i == 1 ? 20 : (i - 1) % 100);
        s.is("call 512", x.count(4), 11);
        s.aside("what later calls answer is free");
    }

    /** Each line of the face stands in the class as it stands in the document. */
    private static void publicFace() throws Exception {
        s.begin("The public face");
        s.says("java import java.util.NoSuchElementException");
        String source = Sentences.source();
        s.is("imported", source.contains("\nimport java.util.NoSuchElementException;\n"), true);
        int lines = 0;
        for (String line : s.section("The public face").split("\n")) {
            String call = line.trim();
            if (!call.startsWith("public")) continue;
            lines++;
            String due = call.endsWith(");") || call.endsWith("Exception;") ? call.substring(0, call.length() - 1) + " {" : call;
            s.is("'" + due + "' stands in the class", source.contains("\n" + (call.startsWith("public final class") ? "" : "    ") + due + "\n"), true);
        }
        s.is("the class, its constant, its constructor and 45 calls", lines, 48);
        Field none = ThornHedge.class.getDeclaredField("NONE");
        s.is("NONE", none.getInt(null), -1);
        s.aside("public final class", "}");
    }

    // ---- terms, 1

    private static ThornHedge told(String text, Twins.Asked read) {
        ThornHedge x = Checks.text(new ThornHedge(), text);
        read.of(x);
        return x;
    }

    private static void miles() {
        s.aside("1");
        s.says("MILES 0 .. (1 .. 12 of them, at first 1)");
        s.is("at first", new ThornHedge().count(0), 1);
        for (int n = 1; n <= 12; n++) {
            ThornHedge x = Checks.made(Checks.times("4", n), "");
            int behind = n;
            s.is(n + " of them", x.count(0), n);
            s.is("the last of " + n, x.mile(n - 1, 0), 4);
            s.thrown("behind the last of " + n, () -> x.mile(behind, 0));
        }
        s.is("13 are too many", Checks.text(new ThornHedge(), Checks.times("4", 13)).line(), -13);
        s.says("each with a HEDGE 0 .. 9 (at first 0)");
        s.is("at first", new ThornHedge().mile(0, 0), 0);
        for (int h = 0; h <= 9; h++) s.is("HEDGE " + h, Checks.made("0" + h, "").mile(1, 0), h);
        s.says("a GATE or none");
        s.is("at first none", new ThornHedge().mile(0, 1), 0);
        s.is("a GATE", Checks.made("0G", "").mile(1, 1), 1);
        s.is("none", Checks.made("0G", "").mile(0, 1), 0);
        s.says("MEN 0 .. 9 (guards; at first 0)");
        s.is("at first", new ThornHedge().mile(0, 2), 0);
        for (int n = 0; n <= 9; n++) s.is(n + " MEN", new ThornHedge().guard(0, n), n);
        s.is("ten are too many", new ThornHedge().guard(0, 10), -1);
        s.says("THE LINE is told by a text of 1 to 12 signs: a digit (HEDGE) or G (a GATE; HEDGE 0)");
        ThornHedge x = told("0123456789G9", ThornHedge::line);
        for (int m = 0; m < 10; m++) s.is("digit " + m, x.mile(m, 0) * 10 + x.mile(m, 1), m * 10);
        s.is("G, a GATE", x.mile(10, 1), 1);
        s.is("G, HEDGE 0", x.mile(10, 0), 0);
        s.is("the twelfth sign", x.mile(11, 0), 9);
        s.is("no sign", Checks.text(new ThornHedge(), "").line(), -1);
        s.is("g is none such", Checks.text(new ThornHedge(), "g").line(), -1);
        s.says("At first 0");
        s.is("one MILE, no HEDGE, no GATE", new ThornHedge().count(0) * 100 + new ThornHedge().count(9) * 10 + new ThornHedge().count(8), 100);
    }

    private static void carriers() {
        s.says("CARRIERS 0 .. (at most 8): KIND 0 .. 4, LOAD 1 .. 9");
        s.is("eight", told("01;12;23;34;45;06;17;28", ThornHedge::carriers).carrier(7, 1), 8);
        s.is("a ninth", Checks.text(told("01;12;23;34;45;06;17;28", ThornHedge::carriers), "01").carriers(), -1);
        for (int i = 0; i < 45; i++) {
            ThornHedge x = told("" + i / 9 + (i % 9 + 1), ThornHedge::carriers);
            s.is("KIND and LOAD", x.carrier(0, 0) * 10 + x.carrier(0, 1), i / 9 * 10 + i % 9 + 1);
        }
        s.is("KIND 5", Checks.text(new ThornHedge(), "51").carriers(), -1);
        s.is("LOAD 0", Checks.text(new ThornHedge(), "00").carriers(), -2);
        s.says("They are told by a text of at most 23 signs: LINES with ; between, each one more: a digit 0 .. 4 (KIND), a digit 1 .. 9 (LOAD)");
        ThornHedge x = told("09", ThornHedge::carriers);
        s.is("two LINES", Checks.text(x, "38;41").carriers(), 2);
        s.is("each one more", x.count(1), 3);
        s.is("behind those that were there", x.carrier(1, 0) * 10 + x.carrier(1, 1), 38);
        s.is("those that were there stay", x.carrier(0, 1), 9);
        s.is("23 signs", Checks.text(new ThornHedge(), Checks.times("11;", 7) + "11").carriers(), 8);
        s.is("24 signs", Checks.text(new ThornHedge(), Checks.times("11;", 8)).carriers(), -24);
        for (String between : new String[] {",", " ", ":", "1"}) s.is("no ; between", Checks.text(new ThornHedge(), "11" + between + "11").carriers(), -3);
    }

    private static void weather() {
        s.says("WEATHER is a text of 1 to 20 signs (at first f)");
        s.is("at first one sign", new ThornHedge().count(10), 1);
        ThornHedge first = Checks.made("55", "29");
        s.is("at first no rain", first.danger(0, 0), -2);
        first.weeks(60);
        s.is("at first fair", first.count(9), 10);
        for (int n = 0; n <= 21; n++) s.is(n + " signs", Checks.text(new ThornHedge(), Checks.times("d", n)).weather(), n == 0 ? -1 : n == 21 ? -21 : n);
        s.says("that of a WEEK is the sign at WEEK by how many there are (rest)");
        ThornHedge x = Checks.made("0", "");
        Checks.text(x, "frfrr").weather();
        int[] due = {0, 1, 1, 2, 3, 3, 4, 4, 5, 6, 6, 7};
        for (int week = 0; week < due.length; week++) {
            x.weeks(1);
            s.is("HEDGE behind WEEK " + week, x.mile(0, 0), due[week]);
        }
        s.says("f fair, d dry, r rain, a ants");
        String[] skies = {"f", "d", "r", "a"};
        int[] then = {5555, 4444, 6666, 555};
        for (int i = 0; i < 4; i++) {
            ThornHedge y = Checks.made("5555", "29");
            Checks.text(y, skies[i]).weather();
            s.is("flood in " + skies[i], y.danger(0, 0), i == 2 ? 0 : -2);
            y.price(1, 0);
            y.weeks(1);
            s.is("HEDGES behind " + skies[i], y.mile(0, 0) * 1000 + y.mile(1, 0) * 100 + y.mile(2, 0) * 10 + y.mile(3, 0), then[i]);
        }
    }

    private static void mouths() {
        s.says("MOUTHS are sorts 0 .. (at most 8): PEOPLE 1 .. 99, who can pay PURSE 0 .. 99 at most");
        ThornHedge x = told("1,0;99,99;2,3;4,5;6,7;8,9;10,11;12,13", ThornHedge::mouths);
        int[] due = {100, 9999, 203, 405, 607, 809, 1011, 1213};
        for (int i = 0; i < 8; i++) s.is("sort " + i, x.mouth(i, 0) * 100 + x.mouth(i, 1), due[i]);
        s.is("a ninth", Checks.text(x, "1,1").mouths(), -1);
        s.is("PEOPLE 0", Checks.text(new ThornHedge(), "0,5").mouths(), -1);
        s.is("PEOPLE 100", Checks.text(new ThornHedge(), "100,5").mouths(), -3);
        s.is("PURSE 100", Checks.text(new ThornHedge(), "5,100").mouths(), -5);
        ThornHedge one = told("7,30", ThornHedge::mouths);
        s.is("they can pay 30", one.without(30), 0);
        s.is("they can't pay 31", one.without(31), 7);
        s.says("They are told by a text of at most 47 signs: LINES with ; between, each one more: PEOPLE (1 or 2 digits, not 0), a comma, PURSE (1 or 2 digits)");
        ThornHedge y = told("5,05", ThornHedge::mouths);
        s.is("two LINES", Checks.text(y, "06,7;88,9").mouths(), 2);
        s.is("each one more", y.count(2), 3);
        s.is("behind those that were there", y.mouth(1, 0) * 100 + y.mouth(1, 1), 607);
        s.is("those that were there stay", y.mouth(0, 0) * 100 + y.mouth(0, 1), 505);
        s.is("47 signs", Checks.text(new ThornHedge(), Checks.times("10,10;", 7) + "10,10").mouths(), 8);
        s.is("48 signs", Checks.text(new ThornHedge(), Checks.times("10,10;", 8)).mouths(), -48);
        s.is("00 is 0", Checks.text(new ThornHedge(), "00,1").mouths(), -2);
        for (String between : new String[] {",", " ", ":", "1"}) s.is("no ; between", Checks.text(new ThornHedge(), "1,11" + between + "1,1").mouths(), -5);
        for (String comma : new String[] {";", " ", "."}) s.is("no comma", Checks.text(new ThornHedge(), "1" + comma + "1").mouths(), -2);
    }

    private static void pricesAndWeek() {
        s.says("CHEAP (0 .. 99, at first 5) and DEAR (0 .. 99, at first 20)");
        s.is("CHEAP at first", new ThornHedge().count(3), 5);
        s.is("DEAR at first", new ThornHedge().count(4), 20);
        for (int what = 0; what <= 1; what++) {
            for (int v : new int[] {-1, 0, 99, 100}) s.is("price(" + what + ", " + v + ")", new ThornHedge().price(what, v), v < 0 || v > 99 ? -1 : what == 0 ? 5 : 20);
        }
        s.says("WEEK (at first 0), OVER (loads that came over, at first 0)");
        s.is("WEEK at first", new ThornHedge().count(5), 0);
        s.is("OVER at first", new ThornHedge().count(6), 0);
        ThornHedge x = Checks.made("0", "03;44");
        x.weeks(3);
        s.is("WEEK", x.count(5), 3);
        s.is("OVER, loads that came over", x.count(6), 21);
    }

    // ---- terms, 1: THE RULE

    /** h 7, g 3, l 6, w 2, n 1. */
    private static ThornHedge ruled() {
        ThornHedge x = Checks.made("74", "06");
        x.weeks(60);
        x.weeks(6);
        x.guard(0, 3);
        x.guard(1, 9);
        return x;
    }

    private static void risk(String rule, int due) {
        ThornHedge x = Checks.text(ruled(), rule);
        s.is("'" + rule + "' is taken", x.rule(), 0);
        s.is("'" + rule + "'", x.danger(0, 0), due);
    }

    private static void fault(String rule, int place) {
        s.is("'" + rule + "'", Checks.text(ruled(), rule).rule(), -1 - place);
    }

    private static void ruleActs() {
        s.says("THE RULE is a text of at most 40 signs (at first none: h*5+g*10)");
        s.is("at first none", ruled().danger(0, 0), 65);
        risk(Checks.times("1+", 19) + "12", 31);
        fault(Checks.times("1+", 19) + "123", 40);
        s.says("EXPRESSION: < > = bind least (two; 1 or 0; not one behind the other)");
        String[] rules = {"1+1<3", "3>1+1", "2*3=6", "4-3=1", "6=2*3", "4<5", "5<5", "6<5", "4>5", "5>5", "6>5", "4=5", "5=5", "6=5", "-1<0", "(5<4)+7", "(4>5)+7", "(4=5)+7", "(4<5)+7", "(5>4)+7", "(5=5)+7"};
        int[] due = {1, 1, 1, 1, 1, 1, 0, 0, 0, 0, 1, 0, 1, 0, 1, 7, 7, 7, 8, 8, 8};
        for (int i = 0; i < rules.length; i++) risk(rules[i], due[i]);
        for (String a : new String[] {"<", ">", "="}) {
            for (String b : new String[] {"<", ">", "="}) {
                fault("h" + a + "g" + b + "l", 3);
                fault("h" + a + "g+1" + b + "l", 5);
                fault("(h" + a + "g" + b + "l)", 4);
            }
            fault("h" + a, 2);
            fault(a + "h", 0);
        }
        s.says("then + - (from the left)");
        risk("9-3-2", 4);
        risk("9-3+2", 8);
        risk("9+3-2", 10);
        risk("2+3*4", 14);
        risk("20-8/4", 18);
        s.says("then * / (from the left; by 0: 0; cut to 0)");
        risk("8/4/2", 1);
        risk("8/4*2", 4);
        risk("3*5/2", 7);
        risk("5/0", 0);
        risk("5/0+7", 7);
        risk("5/(3-g)+8", 8);
        risk("7/2", 3);
        risk("-7/2+9", 6);
        risk("7/-2+9", 6);
        risk("-7/-2", 3);
        s.says("then - ahead of a thing (any many)");
        risk("-2*3+9", 3);
        risk("9*-2+20", 2);
        risk("9/-2+20", 16);
        risk("9+-2", 7);
        risk("9---3", 6);
        risk("--5", 5);
        risk("-----5+9", 4);
        risk(Checks.times("-", 38) + "h", 7);
        risk("-(2-9)", 7);
        // - 512 times .. is the least int; were - ahead of all of it, it would be more than 0
        risk("-512*512*512*16/2", 0);
    }

    private static void ruleThings() {
        s.says("things: a NUMBER of 1 to 3 digits");
        risk("7", 7);
        risk("42", 42);
        risk("999", 999);
        risk("007", 7);
        fault("1234", 3);
        fault("h+0000", 5);
        s.says("an EXPRESSION in ( ) (at most 4 in one another)");
        risk("(2+3)*4", 20);
        risk("9-(3-2)", 8);
        risk("(1<2)+(3>2)", 2);
        risk("1<(2<3)", 0);
        risk("((((8))))", 8);
        risk("((((1))))+((((2))))", 3);
        fault("(((((8", 4);
        fault("(h", 2);
        fault("h)", 1);
        fault("()", 1);
        s.says("and, of a CARRIER at a MILE: h HEDGE");
        risk("h", 7);
        s.says("g MEN");
        risk("g", 3);
        s.says("l LOAD");
        risk("l", 6);
        s.says("w WEEK by 8 (rest)");
        risk("w", 2);
        ThornHedge x = Checks.made("0", "01");
        Checks.text(x, "w").rule();
        for (int week = 0; week < 18; week++) {
            s.is("WEEK " + week, x.danger(0, 0), week % 8);
            x.weeks(1);
        }
        s.says("n how many other MILES have MEN");
        ThornHedge y = Checks.made("0G00", "01");
        Checks.text(y, "n").rule();
        s.is("none has", y.danger(0, 0), 0);
        y.guard(0, 9);
        s.is("its own do not count", y.danger(0, 0), 0);
        s.is("at another one they do", y.danger(0, 2), 1);
        y.guard(1, 1);
        y.guard(3, 5);
        s.is("two others", y.danger(0, 0), 2);
        s.is("three others", y.danger(0, 2), 3);
        y.guard(3, 0);
        s.is("gone again", y.danger(0, 2), 2);
        s.says("As ints, put to 0 .. 999: RISK");
        risk("999+1", 999);
        risk("998+1", 999);
        risk("998", 998);
        risk("0-1", 0);
        risk("512*512*512*16", 0);
        risk("512*512*512*16-1+1<0", 1);
        risk("512*512*512*16-1", 999);
        risk("512*512*512*32+7", 7);
        for (String sign : new String[] {"H", " ", "x", ".", "&"}) fault(sign, 0);
    }

    // ---- terms, 1: DANGER, GOES, A WEEK

    /** HEDGES 7, none (a GATE), 3; MEN 1, 5, 0; KINDS 0 to 4 in WEEK 0 (fair), 1 (rain). */
    private static ThornHedge five() {
        ThornHedge x = Checks.made("7G3", "09;19;29;39;49");
        Checks.text(x, "fr").weather();
        x.guard(0, 1);
        x.guard(1, 5);
        return x;
    }

    private static void danger() {
        ThornHedge fair = five(), rain = five();
        rain.price(1, 0);
        rain.weeks(1);
        s.says("DANGER of a CARRIER at a MILE, by its KIND: 0 (baskets, slung over): RISK; not at a GATE");
        dangers(fair, 0, 45, -2, 15);
        dangers(rain, 0, 45, -2, 15);
        s.says("1 (camels, through): RISK with half of HEDGE (cut) as h; not at a GATE");
        dangers(fair, 1, 25, -2, 5);
        for (int h = 0; h <= 9; h++) s.is("half of " + h, Checks.made("" + h, "11").danger(0, 0), h / 2 * 5);
        s.says("2 (by flood): RISK with 0 as h; not at a GATE, and just in a WEEK of rain");
        dangers(fair, 2, -2, -2, -2);
        dangers(rain, 2, 10, -2, 0);
        s.says("3 (wedding bread): half of RISK (cut); at a GATE alone");
        dangers(fair, 3, -2, 25, -2);
        for (int r : new int[] {0, 1, 2, 3, 998, 999}) s.is("half of " + r, ruledBy(r).danger(3, 1), r / 2);
        s.says("4 (of earth, on this side): MEN of all MILES, times 2; at any MILE");
        dangers(fair, 4, 12, 12, 12);
        Checks.text(fair, "999").rule();
        dangers(fair, 4, 12, 12, 12);
    }

    private static ThornHedge ruledBy(int risk) {
        ThornHedge x = Checks.text(five(), "" + risk);
        x.rule();
        return x;
    }

    private static void dangers(ThornHedge x, int carrier, int... due) {
        for (int m = 0; m < due.length; m++) s.is("WEEK " + x.count(5) + ", MILE " + m, x.danger(carrier, m), due[m]);
    }

    private static void goes() {
        s.says("A CARRIER GOES, if there is a MILE where it can");
        String[] bands = {"09", "19", "29", "39", "49"};
        int[] gates = {-1, -1, -1, 0, 0}, hedges = {0, 0, -1, -1, 0};
        for (int i = 0; i < 5; i++) {
            s.is("KIND " + i + " where there are GATES alone", Checks.made("GG", bands[i]).carrier(0, 2), gates[i]);
            s.is("KIND " + i + " where there are none, in fair weather", Checks.made("00", bands[i]).carrier(0, 2), hedges[i]);
        }
        s.says("to the one with the least DANGER (of equal ones the first)");
        s.is("the least", Checks.made("5321", "09").carrier(0, 2), 3);
        s.is("the first", Checks.made("5123", "09").carrier(0, 2), 1);
        s.is("of equal ones", Checks.made("5353", "09").carrier(0, 2), 1);
        s.is("all equal", Checks.made("4444", "09").carrier(0, 2), 0);
        s.says("if LOAD times what DEAR is more than CHEAP is more than that DANGER");
        for (int load = 1; load <= 9; load++) {
            for (int more = -1; more <= 1; more++) {
                ThornHedge x = Checks.made("0", "0" + load);
                Checks.text(x, "" + (load * 15 + more)).rule();
                s.is("LOAD " + load + ", " + more + " more", x.carrier(0, 2), more < 0 ? 0 : -1);
            }
        }
        ThornHedge x = Checks.made("2", "01");
        x.price(0, 9);
        s.is("20 is 11 more than 9", x.carrier(0, 2), 0);
        x.price(0, 10);
        s.is("20 is 10 more than 10", x.carrier(0, 2), -1);
        x.price(1, 21);
        s.is("21 is 11 more than 10", x.carrier(0, 2), 0);
        x.price(0, 99);
        x.price(1, 0);
        Checks.text(x, "0").rule();
        s.is("DEAR is less than CHEAP", x.carrier(0, 2), -1);
    }

    private static void weekCarriers() {
        s.says("A WEEK: (1) CARRIERS one behind the other, each as all is then: if it GOES, OVER is LOAD more");
        // baskets: 15 against 15; camels: 30 against 5, and eat; baskets: 45 against 5
        ThornHedge x = Checks.made("3", "01;12;03");
        s.is("who went", x.weeks(1), 5);
        s.row("who went", x, 6, 1);
        s.is("OVER", x.count(6), 5);
        x.weeks(1);
        s.is("OVER, a WEEK later", x.count(6), 11);
        ThornHedge stay = Checks.made("9", "01");
        stay.weeks(1);
        s.is("none GOES", stay.count(6), 0);
        ThornHedge before = Checks.made("3", "01");
        Checks.text(before, "d").weather();
        s.is("(1) is ahead of (2)", before.weeks(1), 0);
        s.is("a WEEK later the hedge is less", before.weeks(1), 1);
        s.says("camels: HEDGE of that MILE is 2 less (0 at least)");
        for (int h = 0; h <= 9; h++) {
            ThornHedge camels = Checks.made("9" + h, "19");
            camels.guard(0, 9);
            camels.weeks(1);
            s.is("of " + h, camels.mile(1, 0), Math.max(0, h - 2));
            s.is("another MILE", camels.mile(0, 0), 9);
        }
        for (String other : new String[] {"09", "29", "39", "49"}) {
            ThornHedge y = Checks.made("55G", other);
            y.weeks(1);
            s.is("of KIND " + other.charAt(0) + " none is less", y.count(9), 10);
        }
    }

    private static void weekWeather() {
        s.says("(2) By WEATHER: d: each HEDGE is 1 less (0 at least)");
        ThornHedge x = Checks.made("0129", "");
        Checks.text(x, "d").weather();
        x.weeks(1);
        hedges(x, 0, 0, 1, 8);
        s.says("r: 1 more (9 at most; of a GATE, too)");
        ThornHedge y = Checks.made("089G", "");
        Checks.text(y, "r").weather();
        y.weeks(1);
        hedges(y, 1, 9, 9, 1);
        s.says("a: HEDGE of MILE WEEK by how many MILES there are (rest) is 0");
        ThornHedge z = Checks.made("777", "");
        Checks.text(z, "a").weather();
        int[][] due = {{0, 7, 7}, {7, 0, 7}, {7, 7, 0}, {0, 7, 7}, {7, 0, 7}};
        for (int[] d : due) {
            z.sheet(2, 3, 7, 0);
            z.weeks(1);
            hedges(z, d);
        }
        s.says("(3) WEEK is 1 more");
        for (int week = 0; week < 20; week++) {
            s.is("WEEK", x.count(5), week + 1);
            x.weeks(1);
        }
    }

    private static void hedges(ThornHedge x, int... due) {
        for (int m = 0; m < due.length; m++) s.is("behind WEEK " + (x.count(5) - 1) + ", MILE " + m, x.mile(m, 0), due[m]);
    }

    // ---- terms, 2

    private static void rows() {
        s.aside("2");
        s.says("ROW: numbers told last by a call that says so");
        String[] quiet = {"sign", "end", "line", "carriers", "weather", "mouths", "rule", "mile", "carrier", "mouth", "danger", "sheet", "price", "guard", "plant", "gate", "undo", "keeps",
            "reward", "lasts", "heard", "forget", "keep", "again", "count", "row"};
        for (String name : quiet) {
            ThornHedge x = Twins.some();
            x.caught(2, 1, 5);
            call(x, name);
            s.row("as told, behind " + name + "()", x, 3, 4);
        }
        String[] telling = {"weeks", "log", "goes", "ahead", "holds", "tax", "without", "beats", "thorns", "walls", "posts", "rounds", "pays", "caught", "fits", "ask", "law", "rests", "years"};
        int[] many = {2, 2, 2, 2, 1, 2, 2, 4, 2, 1, 1, 1, 2, 2, 2, 1, 2, 2, 2};
        for (int i = 0; i < telling.length; i++) {
            ThornHedge x = Twins.some();
            x.rests(20, 9);
            call(x, telling[i]);
            s.is("numbers told by " + telling[i] + "()", x.count(13), many[i]);
        }
        ThornHedge x = Twins.some();
        x.caught(2, 1, 5);
        x.ahead(100);
        x.beats(5);
        s.row("as told, behind refused calls", x, 3, 4);
        s.says("Sets are bits");
        s.is("CARRIERS 0 and 2", Checks.made("0", "01;31;01").goes(), 5);
        s.is("MILES 1 and 3", Checks.made("0G0G", "").count(8), 10);
        s.says("Rows are compared from the first number on");
        ThornHedge y = Checks.made("000", "09");
        y.beats(3);
        s.row("of as good ones the least", y, 0, 0, 3);
        s.says("Fractions are told in lowest terms, upper and lower number (0 by 1)");
        y.caught(2, 1, 5);
        s.row("75 of 100", y, 3, 4);
        y.caught(2, 3, 5);
        s.row("0 of 100", y, 0, 1);
    }

    /** One call of this name that is not refused, on an object as Twins.some() makes it. */
    private static long call(ThornHedge x, String name) {
        switch (name) {
            case "sign": return x.sign(0);
            case "end": return x.end(1) ? 1 : 0;
            case "line": return Checks.text(x, "52G7").line();
            case "carriers": return Checks.text(x, "01").carriers();
            case "weather": return Checks.text(x, "r").weather();
            case "mouths": return Checks.text(x, "1,1").mouths();
            case "rule": return Checks.text(x, "h").rule();
            case "mile": return x.mile(0, 0);
            case "carrier": return x.carrier(0, 2) + x.carrier(0, 3);
            case "mouth": return x.mouth(0, 0);
            case "danger": return x.danger(0, 0);
            case "sheet": return x.sheet(2, 1, 3, 0);
            case "price": return x.price(1, 9);
            case "guard": return x.guard(0, 1);
            case "plant": return x.plant(0, 1);
            case "gate": return x.gate(0);
            case "weeks": return x.weeks(2);
            case "log": return Checks.text(x, "w1").log();
            case "undo": return x.undo();
            case "goes": return x.goes();
            case "ahead": return x.ahead(9);
            case "holds": return x.holds();
            case "keeps": return x.keeps();
            case "tax": return x.tax();
            case "without": return x.without(50);
            case "beats": return x.beats(2);
            default: return laterCall(x, name);
        }
    }

    private static long laterCall(ThornHedge x, String name) {
        switch (name) {
            case "thorns": return x.thorns(5);
            case "walls": return x.walls();
            case "posts": return x.posts(1);
            case "rounds": return x.rounds(2, 5);
            case "reward": return x.reward(0);
            case "pays": return x.pays(99);
            case "caught": return x.caught(3, 1, 4);
            case "lasts": return x.lasts(5, 5);
            case "heard": return x.heard(0, 0);
            case "forget": return x.forget();
            case "fits": return x.fits();
            case "ask": return x.ask();
            case "law": return Checks.text(x, "h*9").law();
            case "rests": return x.rests(20, 5);
            case "years": return x.years(7, 60);
            case "keep": return x.keep(1) ? 1 : 0;
            case "again": return x.again(2) ? 1 : 0;
            case "count": return x.count(6);
            case "row": return x.row(0);
            default: throw new IllegalArgumentException(name);
        }
    }

    private static void questions() {
        s.says("Questions change nothing");
        String[] names = {"goes", "ahead", "holds", "keeps", "tax", "without", "beats", "thorns", "walls", "posts", "rounds", "reward", "pays", "caught", "lasts", "fits", "ask", "rests", "years",
            "mile", "carrier", "mouth", "danger", "count"};
        for (String name : names) s.question(name + "()", Twins::some, x -> call(x, name));
        ThornHedge law = Twins.some();
        call(law, "law");
        s.same("law()", Twins.all(law, false, false), Twins.all(Twins.some(), false, false));
        s.says("WEEKS in them go by as told");
        for (int n = 0; n <= 60; n++) {
            ThornHedge asked = Twins.some(), passed = Twins.some();
            long loads = asked.ahead(n);
            s.is("ahead(" + n + ")", loads, passed.weeks(n));
            s.is("ahead(" + n + "), HEDGES", asked.row(0), passed.count(9));
            if (n >= 1 && n <= 20) {
                asked.thorns(n);
                s.is("thorns(" + n + "), loads as it is", asked.row(1), loads);
            }
        }
        ThornHedge asked = Twins.some();
        Checks.text(asked, "").law();
        s.is("law(), 10 WEEKS by THE RULE", asked.row(1), Twins.some().weeks(10));
    }

    private static void refusedCalls() {
        s.says("Refused calls answer NONE, or false, and change nothing but THE TEXT, which a call that reads it empties");
        Twins.Asked[] refused = {x -> x.price(0, 100), x -> x.price(1, -1), x -> x.price(2, 0), x -> x.guard(0, 10), x -> x.guard(12, 0), x -> x.plant(0, 0), x -> x.plant(12, 1), x -> x.gate(12),
            x -> x.gate(-1), x -> x.weeks(61), x -> x.ahead(100), x -> x.without(100), x -> x.beats(5), x -> x.thorns(21), x -> x.posts(12), x -> x.rounds(10, 0), x -> x.reward(8), x -> x.pays(1000),
            x -> x.caught(11, 0, 0), x -> x.lasts(11, 0), x -> x.heard(3, 0), x -> x.rests(21, 0), x -> x.years(0, 61), x -> x.danger(8, 0), x -> x.sheet(4, 0, 0, 0), x -> x.sheet(0, 13, 0, 0)};
        for (int i = 0; i < refused.length; i++) for (Twins.Maker maker : MAKERS) s.refused("call " + i, maker, refused[i], ThornHedge.NONE);
        Twins.Asked[] wrong = {x -> x.end(81) ? 1 : 0, x -> x.end(-1) ? 1 : 0, x -> x.keep(3) ? 1 : 0, x -> x.again(3) ? 1 : 0};
        for (int i = 0; i < wrong.length; i++) for (Twins.Maker maker : MAKERS) s.refused("false, call " + i, maker, wrong[i], 0);
        s.refused("no room for signs", Twins::full, x -> x.sign(0), ThornHedge.NONE);
        s.refused("undo() of none", ThornHedge::new, x -> x.undo(), ThornHedge.NONE);
        s.refused("12 were heard", Twins::full, x -> x.heard(0, 0), ThornHedge.NONE);
        Twins.Asked[] readers = {ThornHedge::line, ThornHedge::carriers, ThornHedge::weather, ThornHedge::mouths, ThornHedge::rule, ThornHedge::log};
        for (Twins.Asked reader : readers) for (Twins.Maker maker : MAKERS) s.refusedText(maker, "?", reader, -1);
        for (Twins.Maker maker : MAKERS) s.refusedText(maker, "?", ThornHedge::law, -10000);
    }

    /** The class is laid out under the same words, the same calls under each. */
    private static void calls() {
        String source = Sentences.source();
        Matcher ahead = Pattern.compile("Ahead of the calls (.*?) the interface says: ---- (.*?)\\.").matcher(s.section("Terms"));
        int groups = 0;
        while (ahead.find()) {
            s.says(ahead.group());
            groups++;
            int from = source.indexOf("    // ---- " + ahead.group(2) + "\n");
            s.is("these words stand in the class", from >= 0, true);
            int to = source.indexOf("    // ----", from + 1);
            Matcher call = Pattern.compile("\n    public \\w+ (\\w+)\\(").matcher(source.substring(Math.max(0, from), to < 0 ? source.length() : to));
            StringBuilder names = new StringBuilder();
            while (call.find()) names.append(names.length() == 0 ? "`" : ", `").append(call.group(1)).append("`");
            s.same("the calls behind them", names.toString(), ahead.group(1));
        }
        s.is("eight groups of calls", groups, 8);
    }
}
