/** The boundary cases of promises 1 to 8, 19 and 40 that are about texts, each sentence by itself. */
public final class TextBoundsTest {
    private static final Checks c = new Checks("TextBoundsTest");
    private static final String DIGITS = "0123456789";
    private static final String LETTERS = "abcdefghijkl";

    public static void main(String[] args) {
        newObject();
        signIsFull();
        signBytes();
        endCuts();
        lineSigns();
        lineLengths();
        lineAnew();
        lineOverAnother();
        readTextsAreEmpty();
        carrierSigns();
        carrierEnds();
        carrierRoom();
        weatherSigns();
        weatherGoesRound();
        mouthSigns();
        mouthEnds();
        mouthNumbers();
        mouthRoom();
        ruleSigns();
        ruleDepth();
        ruleCompares();
        ruleLengths();
        ruleEmpty();
        ruleBehindRefused();
        riskBounds();
        riskWeek();
        riskOthers();
        logSigns();
        logEnds();
        logLengths();
        lawFaults();
        c.end();
    }

    /** Each of the 256 signs behind these: those that can stand there, and all others at their place. */
    private static void stands(String what, Twins.Asked read, int base, String ahead, String allowed) {
        ThornHedge x = new ThornHedge();
        for (char sign = 0; sign < 256; sign++) {
            int place = ahead.length() + (allowed.indexOf(sign) < 0 ? 0 : 1);
            c.due(what + ": '" + ahead + "', then sign " + (int) sign, read.of(Checks.text(x, ahead + sign + "~")), base - place);
        }
    }

    private static void refusedAll(String what, Twins.Asked read, long due, String... texts) {
        for (String text : texts) {
            c.refusedText(what, Twins::some, text, read, due);
            c.refusedText(what, ThornHedge::new, text, read, due);
        }
    }

    // ---- promise 1

    private static void newObject() {
        String[] name = {"MILES", "CARRIERS", "sorts of MOUTHS", "CHEAP", "DEAR", "WEEK", "OVER", "MEN", "GATES", "HEDGES", "signs of WEATHER", "heard", "undone", "ROW", "THE TEXT"};
        int[] due = {1, 0, 0, 5, 20, 0, 0, 0, 0, 0, 1, 0, 0, 0, 0};
        for (int what = 0; what < due.length; what++) c.due("1: at first, " + name[what], new ThornHedge().count(what), due[what]);
        c.due("1: nothing can be undone", new ThornHedge().undo(), -1);
        for (int i = 0; i < 3; i++) c.due("1: nothing is kept", new ThornHedge().again(i), false);
        c.due("1: nothing was heard", new ThornHedge().forget(), 0);
        ThornHedge x = new ThornHedge();
        x.plant(0, 5);
        x.weeks(60);
        c.due("1: WEATHER is fair at first", x.mile(0, 0), 5);
        Checks.text(x, "01").carriers();
        x.guard(0, 3);
        c.due("1: THE RULE is h*5+g*10 at first", x.danger(0, 0), 55);
        c.due("1: objects have nothing of one another", new ThornHedge().count(9), 0);
    }

    // ---- promises 2 and 3

    private static void signIsFull() {
        for (int has = 0; has <= 80; has++) {
            ThornHedge x = new ThornHedge();
            for (int i = 0; i < 20; i++) x.sign(0);
            x.end(has);
            c.due("2: behind " + has + " signs", x.sign(0), has <= 76 ? has + 4 : -1);
            c.due("2: behind " + has + " signs, there are", x.count(14), has <= 76 ? has + 4 : has);
        }
        for (int v : Twins.FAR) c.refused("2: there would be 84", Twins::full, x -> x.sign(v));
        ThornHedge x = Checks.text(new ThornHedge(), "123" + Checks.times("x", 74));
        c.due("2: there would be 81", x.sign('9' << 24 | '9' << 16 | '9' << 8 | '9'), -1);
        c.due("2: refused, none of the four came", x.end(78), false);
        x.end(3);
        c.due("2: refused, the first signs stay", x.line(), 3);
        c.due("2: refused, the first sign is the same", x.mile(0, 0), 1);
    }

    private static void signBytes() {
        ThornHedge x = new ThornHedge();
        int n = 0;
        for (int v : new int[] {0, -1, Integer.MIN_VALUE, Integer.MAX_VALUE}) c.due("2: sign(" + v + ")", x.sign(v), n += 4);
        for (int place = 0; place < 4; place++) {
            for (int sign = 0; sign < 256; sign++) {
                ThornHedge y = new ThornHedge();
                y.sign(0x35353535 ^ (0x35 ^ sign) << 24 - 8 * place);
                boolean stands = sign == 'G' || sign >= '0' && sign <= '9';
                c.due("2: byte " + place + " is " + sign, y.line(), stands ? 4 : -1 - place);
                if (stands) c.due("2: byte " + place + " is mile " + place, y.mile(place, 1) == 1 ? 'G' : '0' + y.mile(place, 0), sign);
            }
        }
    }

    private static void endCuts() {
        for (int has : new int[] {0, 1, 4, 79, 80}) {
            String text = Checks.times("5", has);
            c.due("3: all of " + has, Checks.text(new ThornHedge(), text).end(has), true);
            c.due("3: none of " + has, Checks.text(new ThornHedge(), text).end(0), true);
            for (int n : new int[] {has + 1, -1, Integer.MIN_VALUE, Integer.MAX_VALUE}) {
                c.refused("3: end(" + n + ") of " + has, () -> Checks.text(Twins.some(), text), x -> x.end(n) ? 1 : 0, 0);
            }
        }
        ThornHedge x = Checks.text(new ThornHedge(), "1234");
        c.due("3: all but one", x.end(3), true);
        c.due("3: the fourth is gone", x.end(4), false);
        x.sign('5' << 24 | '6' << 16 | '7' << 8 | '8');
        c.due("3: signs come behind the cut", x.line(), 7);
        c.due("3: the last ahead of the cut", x.mile(2, 0), 3);
        c.due("3: the first behind the cut", x.mile(3, 0), 5);
    }

    // ---- promise 4

    private static void lineSigns() {
        stands("4", ThornHedge::line, -1, "", DIGITS + "G");
        stands("4", ThornHedge::line, -1, "9", DIGITS + "G");
        stands("4", ThornHedge::line, -1, "G", DIGITS + "G");
        stands("4", ThornHedge::line, -1, "0123456789G", DIGITS + "G");
        stands("4: a thirteenth", ThornHedge::line, -1, "0123456789G0", "");
    }

    private static void lineLengths() {
        refusedAll("4: none, at its end", ThornHedge::line, -1, "");
        for (int n = 1; n <= 80; n++) {
            String text = Checks.times("9", n);
            c.due("4: " + n + " signs", Checks.text(new ThornHedge(), text).line(), n <= 12 ? n : -13);
        }
        for (int p = 0; p < 12; p++) refusedAll("4: at " + p, ThornHedge::line, -1 - p, Checks.times("G", p) + "x", Checks.times("9", p) + "x" + Checks.times("9", 80 - p - 1));
        refusedAll("4: a thirteenth sign, at it", ThornHedge::line, -13, Checks.times("5", 13), Checks.times("5", 12) + "x", Checks.times("5", 80));
        c.refusedText("4: refused, all full", Twins::full, "555x", ThornHedge::line, -4);
    }

    private static void lineAnew() {
        ThornHedge x = Checks.made("9G9", "01");
        x.guard(0, 9);
        x.guard(1, 1);
        x.price(0, 7);
        x.price(1, 70);
        x.weeks(3);
        for (int i = 0; i < 3; i++) x.keep(i);
        x.goes();
        c.due("4: anew, how many", Checks.text(x, "0").line(), 1);
        c.due("4: anew, there are no MEN", x.count(7), 0);
        c.due("4: anew, WEEK", x.count(5), 0);
        c.due("4: anew, OVER", x.count(6), 0);
        c.due("4: anew, what can be undone", x.count(12), 0);
        c.due("4: anew, nothing can be undone", x.undo(), -1);
        for (int i = 0; i < 3; i++) c.due("4: anew, nothing is kept under " + i, x.again(i), false);
        c.due("4: anew, GATES", x.count(8), 0);
        c.due("4: anew, CHEAP and DEAR stay", x.count(3) * 100 + x.count(4), 770);
        c.due("4: anew, CARRIERS stay", x.count(1), 1);
        c.due("4: anew, the ROW stays", x.count(13), 2);
        c.noSuchElement("4: anew, the second mile is gone", () -> x.mile(1, 0));
        Checks.text(x, "GG0000000000").line();
        for (int m = 0; m < 12; m++) c.due("4: anew, nothing of what was at " + m, x.mile(m, 0) * 100 + x.mile(m, 1) * 10 + x.mile(m, 2), m < 2 ? 10 : 0);
        x.guard(11, 9);
        c.due("4: anew, no men counted of what was", x.count(7), 9);
        Checks.text(x, "n").rule();
        c.due("4: anew, no other miles have men", x.danger(0, 11), 0);
    }

    private static void lineOverAnother() {
        ThornHedge x = Checks.made("999", "");
        Checks.text(x, "G").line();
        c.due("4: G has HEDGE 0, whatever was there", x.mile(0, 0), 0);
        Checks.text(x, "GGG").line();
        c.due("4: nor is there one of miles that were gone", x.count(9), 0);
        Checks.text(x, "000").line();
        c.due("4: nor is there a GATE that was", x.count(8), 0);
        Checks.text(x, "9").line();
        Checks.text(x, "9").line();
        c.due("4: the same anew", x.count(9), 9);
    }

    /** A call that reads THE TEXT empties it, when it is taken, too. */
    private static void readTextsAreEmpty() {
        String[] texts = {"5G", "01;12", "fr", "1,1", "h+g", "w1ga", "h"};
        Twins.Asked[] reads = {ThornHedge::line, ThornHedge::carriers, ThornHedge::weather, ThornHedge::mouths, ThornHedge::rule, ThornHedge::log, ThornHedge::law};
        int[] promise = {4, 5, 6, 7, 8, 19, 40};
        for (int i = 0; i < texts.length; i++) {
            ThornHedge x = Checks.text(new ThornHedge(), texts[i]);
            c.due(promise[i] + ": '" + texts[i] + "' is taken", reads[i].of(x) >= 0, true);
            c.due(promise[i] + ": THE TEXT is empty then", x.count(14), 0);
            c.due(promise[i] + ": signs come anew", x.sign('5' << 24), 4);
        }
    }

    // ---- promise 5

    private static void carrierSigns() {
        stands("5: KIND", ThornHedge::carriers, -1, "", "01234");
        stands("5: LOAD", ThornHedge::carriers, -1, "0", "123456789");
        stands("5: between", ThornHedge::carriers, -1, "49", ";");
        stands("5: KIND of the second", ThornHedge::carriers, -1, "49;", "01234");
        stands("5: LOAD of the eighth", ThornHedge::carriers, -1, Checks.times("49;", 7) + "4", "123456789");
        stands("5: behind 23", ThornHedge::carriers, -1, Checks.times("49;", 7) + "49", "");
        for (int kind = 0; kind <= 4; kind++) {
            for (int load = 1; load <= 9; load++) {
                ThornHedge x = Checks.text(new ThornHedge(), "" + kind + load);
                c.due("5: one", x.carriers(), 1);
                c.due("5: KIND and LOAD", x.carrier(0, 0) * 10 + x.carrier(0, 1), kind * 10 + load);
            }
        }
    }

    private static void carrierEnds() {
        for (Twins.Maker maker : new Twins.Maker[] {ThornHedge::new, Twins::some, Twins::full}) c.refusedText("5: an empty one, nothing", maker, "", ThornHedge::carriers, 0);
        for (int lines = 0; lines < 3; lines++) {
            String ahead = Checks.times("49;", lines);
            if (lines > 0) refusedAll("5: its end, too early behind ;", ThornHedge::carriers, -1 - ahead.length(), ahead);
            refusedAll("5: its end, too early behind KIND", ThornHedge::carriers, -2 - ahead.length(), ahead + "4");
            c.due("5: ends in time", Checks.text(new ThornHedge(), ahead + "41").carriers(), lines + 1);
        }
    }

    private static void carrierRoom() {
        for (int has = 0; has <= 8; has++) {
            String there = Checks.times("11;", has);
            Twins.Maker maker = () -> there.isEmpty() ? new ThornHedge() : Checks.made("5", there.substring(0, there.length() - 1));
            int room = 8 - has;
            if (room > 0) {
                ThornHedge x = maker.make();
                String fill = Checks.times("49;", room - 1) + "25";
                c.due("5: room for " + room, Checks.text(x, fill).carriers(), room);
                c.due("5: full now", x.count(1), 8);
                c.due("5: the last", x.carrier(7, 0) * 10 + x.carrier(7, 1), 25);
            }
            int p = room == 8 ? 23 : 3 * room;
            String toMuch = Checks.times("49;", room);
            for (String last : new String[] {"49", "4", "x", "49;49", "49;", ";"}) {
                c.refusedText("5: " + has + " there, no room for LINE " + room, maker, toMuch + last, ThornHedge::carriers, -1 - p);
            }
            c.refusedText("5: " + has + " there, 80 signs", maker, Checks.times("49;", 26) + "49", ThornHedge::carriers, -1 - p);
        }
        ThornHedge x = new ThornHedge();
        c.due("5: 23 signs", Checks.text(x, Checks.times("11;", 7) + "11").carriers(), 8);
        refusedAll("5: the second LINE can't, so the first does not come", ThornHedge::carriers, -4, "11;5", "11;51");
        refusedAll("5: the third LINE can't, so no other comes", ThornHedge::carriers, -8, "11;22;30", "11;22;3");
    }

    // ---- promise 6

    private static void weatherSigns() {
        stands("6", ThornHedge::weather, -1, "", "fdra");
        stands("6", ThornHedge::weather, -1, "fdra", "fdra");
        stands("6", ThornHedge::weather, -1, Checks.times("r", 19), "fdra");
        stands("6: a twenty-first", ThornHedge::weather, -1, Checks.times("r", 20), "");
        refusedAll("6: none, at its end", ThornHedge::weather, -1, "");
        for (int n = 1; n <= 80; n++) {
            ThornHedge x = Checks.text(new ThornHedge(), Checks.times("d", n));
            c.due("6: " + n + " signs", x.weather(), n <= 20 ? n : -21);
            c.due("6: then there are", x.count(10), n <= 20 ? n : 1);
        }
        for (int p = 0; p < 20; p++) refusedAll("6: at " + p, ThornHedge::weather, -1 - p, Checks.times("d", p) + "x", Checks.times("d", p) + "D" + Checks.times("d", 79 - p));
        refusedAll("6: a twenty-first, at it", ThornHedge::weather, -21, Checks.times("a", 21), Checks.times("a", 20) + "x");
    }

    private static void weatherGoesRound() {
        for (int n = 1; n <= 20; n++) {
            ThornHedge x = Checks.made("0", "");
            Checks.text(x, Checks.times("f", n - 1) + "r").weather();
            for (int week = 0; week < 41; week++) {
                x.weeks(1);
                c.due("6: the last of " + n + " signs alone is rain, behind WEEK " + week, x.mile(0, 0), Math.min(9, (week + 1) / n));
            }
        }
        ThornHedge x = Checks.made("5", "");
        x.weeks(7);
        Checks.text(x, "frddd").weather();
        x.weeks(1);
        c.due("6: told anew in WEEK 7, the sign at 2", x.mile(0, 0), 4);
    }

    // ---- promise 7

    private static void mouthSigns() {
        stands("7: PEOPLE", ThornHedge::mouths, -1, "", "123456789");
        stands("7: behind one digit of PEOPLE", ThornHedge::mouths, -1, "9", DIGITS + ",");
        stands("7: behind two digits of PEOPLE", ThornHedge::mouths, -1, "99", ",");
        stands("7: PURSE", ThornHedge::mouths, -1, "9,", DIGITS);
        stands("7: behind one digit of PURSE", ThornHedge::mouths, -1, "9,0", DIGITS + ";");
        stands("7: behind two digits of PURSE", ThornHedge::mouths, -1, "9,00", ";");
        stands("7: PEOPLE of the second", ThornHedge::mouths, -1, "9,00;", "123456789");
        stands("7: behind 47", ThornHedge::mouths, -1, Checks.times("10,10;", 7) + "10,10", "");
        stands("7: behind 46", ThornHedge::mouths, -1, Checks.times("10,10;", 7) + "10,1", DIGITS + ";");
    }

    private static void mouthEnds() {
        for (Twins.Maker maker : new Twins.Maker[] {ThornHedge::new, Twins::some, Twins::full}) c.refusedText("7: an empty one, nothing", maker, "", ThornHedge::mouths, 0);
        for (String ahead : new String[] {"", "1,1;", "12,34;5,67;"}) {
            int p = ahead.length();
            if (p > 0) refusedAll("7: its end, too early behind ;", ThornHedge::mouths, -1 - p, ahead);
            refusedAll("7: its end, too early behind a digit", ThornHedge::mouths, -2 - p, ahead + "7");
            refusedAll("7: its end, too early behind two digits or a comma", ThornHedge::mouths, -3 - p, ahead + "77", ahead + "7,");
            refusedAll("7: its end, too early behind both", ThornHedge::mouths, -4 - p, ahead + "77,");
            refusedAll("7: PEOPLE 0, at its last digit", ThornHedge::mouths, -1 - p, ahead + "0,5", ahead + "0", ahead + "0,", ahead + "0x");
            refusedAll("7: PEOPLE 00, at its last digit", ThornHedge::mouths, -2 - p, ahead + "00,5", ahead + "00", ahead + "000,5", ahead + "00x");
            refusedAll("7: PEOPLE of three digits", ThornHedge::mouths, -3 - p, ahead + "100,5", ahead + "010,5");
            refusedAll("7: PURSE of three digits", ThornHedge::mouths, -5 - p, ahead + "1,100", ahead + "1,000");
        }
    }

    private static void mouthNumbers() {
        String[] people = {"1", "9", "10", "99", "01", "09"}, purse = {"0", "9", "10", "99", "00", "09"};
        for (String a : people) {
            for (String b : purse) {
                ThornHedge x = Checks.text(new ThornHedge(), a + "," + b);
                c.due("7: '" + a + "," + b + "'", x.mouths(), 1);
                c.due("7: PEOPLE '" + a + "'", x.mouth(0, 0), Integer.parseInt(a));
                c.due("7: PURSE '" + b + "'", x.mouth(0, 1), Integer.parseInt(b));
            }
        }
    }

    private static void mouthRoom() {
        for (int has = 0; has <= 8; has++) {
            String there = Checks.times("2,3;", has);
            Twins.Maker maker = () -> {
                ThornHedge x = new ThornHedge();
                if (!there.isEmpty()) Checks.text(x, there.substring(0, there.length() - 1)).mouths();
                return x;
            };
            int room = 8 - has;
            if (room > 0) {
                ThornHedge x = maker.make();
                c.due("7: room for " + room, Checks.text(x, Checks.times("99,99;", room - 1) + "1,0").mouths(), room);
                c.due("7: full now", x.count(2), 8);
                c.due("7: the last", x.mouth(7, 0) * 100 + x.mouth(7, 1), 100);
            }
            for (String line : new String[] {"4,5;", "44,55;", "4,55;"}) {
                int p = Math.min(47, line.length() * room);
                for (String last : new String[] {"4,5", "4", "x", "0", "4,5;4,5", ""}) {
                    String text = Checks.times(line, room) + last;
                    if (!text.isEmpty()) c.refusedText("7: " + has + " there, no room for LINE " + room, maker, text, ThornHedge::mouths, -1 - p);
                }
            }
        }
        ThornHedge x = new ThornHedge();
        String full = Checks.times("10,10;", 7) + "10,10";
        c.due("7: 47 signs", Checks.text(x, full).mouths(), 8);
        refusedAll("7: the second LINE can't, so the first does not come", ThornHedge::mouths, -5, "1,1;0,1", "1,1;x");
        for (String more : new String[] {"0", ";", "x", ",", ";1,1", Checks.times("1", 33)}) {
            c.refusedText("7: more than 47", ThornHedge::new, full + more, ThornHedge::mouths, -48);
        }
        c.refusedText("7: more than 47, but the sign at 2 can't stand", ThornHedge::new, "10;" + full, ThornHedge::mouths, -3);
    }

    // ---- promise 8

    private static void ruleSigns() {
        String things = DIGITS + "hglwn-(", acts = "+-*/<>=";
        for (Twins.Asked read : new Twins.Asked[] {ThornHedge::rule, ThornHedge::law}) {
            int base = read.of(Checks.text(new ThornHedge(), "~")) == -1 ? -1 : -10000;
            String what = base == -1 ? "8" : "40";
            for (String ahead : new String[] {"", "-", "--", "h+", "h-", "h*", "h/", "h<", "h>", "h=", "(", "(((", "h+(-", "(h)*"}) stands(what + ": a thing", read, base, ahead, things);
            for (String ahead : new String[] {"h", "g", "l", "w", "n", "-h", "h+g", "(h)", "123", "h--999", "((h))", "(h<g)"}) stands(what + ": behind a thing", read, base, ahead, acts);
            for (String ahead : new String[] {"0", "12", "h*99", "-7"}) stands(what + ": behind a digit", read, base, ahead, acts + DIGITS);
            for (String ahead : new String[] {"(h", "(123", "((h)", "h<(g"}) stands(what + ": behind a thing in ( )", read, base, ahead, acts + ")");
            for (String ahead : new String[] {"h<g", "h>g", "h=g", "h+1<g*l", "(h)=123", "1<(2)"}) stands(what + ": behind a comparison", read, base, ahead, "+-*/");
            stands(what + ": behind a comparison in ( )", read, base, "1+(h<g", "+-*/)");
            stands(what + ": behind a comparison with a digit", read, base, "h<12", "+-*/" + DIGITS);
            stands(what + ": four in one another", read, base, "((((", DIGITS + "hglwn-");
            stands(what + ": four in one another, closed", read, base, "((((h))))", acts);
            stands(what + ": behind 40", read, base, Checks.times("h+", 19) + "12", "");
        }
    }

    private static void ruleDepth() {
        for (int deep = 0; deep <= 6; deep++) {
            String text = Checks.times("(", deep) + "7" + Checks.times(")", deep);
            ThornHedge x = Checks.made("0", "09");
            c.due("8: " + deep + " in one another", Checks.text(x, text).rule(), deep <= 4 ? 0 : -5);
            if (deep <= 4) c.due("8: " + deep + " in one another, RISK", x.danger(0, 0), 7);
            if (deep > 0 && deep <= 4) refusedAll("8: ends too early, one is open", ThornHedge::rule, -1 - 2 * deep, text.substring(0, 2 * deep));
            if (deep <= 4) refusedAll("8: one ) more", ThornHedge::rule, -2 - 2 * deep, text + ")");
        }
        ThornHedge x = Checks.made("0", "09");
        c.due("8: four in one another, twice", Checks.text(x, "((((1))))+((((2))))").rule(), 0);
        c.due("8: four in one another, twice, RISK", x.danger(0, 0), 3);
        c.due("8: nine, not in one another", Checks.text(x, Checks.times("(1)+", 8) + "(1)").rule(), 0);
        c.due("8: nine, not in one another, RISK", x.danger(0, 0), 9);
        refusedAll("8: the fifth inside", ThornHedge::rule, -9, "((((1)+(((2", "((((1)+((2");
    }

    private static void ruleCompares() {
        for (String a : new String[] {"<", ">", "="}) {
            for (String b : new String[] {"<", ">", "="}) {
                refusedAll("8: not one behind the other", ThornHedge::rule, -4, "h" + a + "g" + b + "l");
                refusedAll("8: not one behind the other, in ( )", ThornHedge::rule, -7, "1+(h" + a + "g" + b + "l)");
                for (String text : new String[] {"(h" + a + "g)" + b + "l", "h" + a + "(g" + b + "l)", "(h" + a + "g)+(g" + b + "l)"}) {
                    c.due("8: '" + text + "'", Checks.text(new ThornHedge(), text).rule(), 0);
                }
            }
        }
        refusedAll("8: not one behind the other, ( ) between", ThornHedge::rule, -8, "h<(g<l)<n", "h=(g)+1>n", "1>(2=3)=4");
        refusedAll("8: not one behind the other, deep ( ) between", ThornHedge::rule, -12, "h<((g<l)=1)<n");
        String[] rules = {"4<5", "5<5", "6<5", "4>5", "5>5", "6>5", "4=5", "5=5", "6=5", "0-1<0", "0=-0"};
        int[] due = {1, 0, 0, 0, 0, 1, 0, 1, 0, 1, 1};
        risks(rules, due);
    }

    private static void risks(String[] rules, int[] due) {
        ThornHedge x = Checks.made("0", "09");
        for (int i = 0; i < rules.length; i++) {
            c.due("8: '" + rules[i] + "' can be", Checks.text(x, rules[i]).rule(), 0);
            c.due("8: RISK by '" + rules[i] + "'", x.danger(0, 0), due[i]);
        }
    }

    private static void ruleLengths() {
        ThornHedge x = Checks.made("1", "09");
        String forty = Checks.times("h+", 19) + "12";
        c.due("8: 40 signs", Checks.text(x, forty).rule(), 0);
        c.due("8: 40 signs, RISK", x.danger(0, 0), 31);
        c.due("8: 40 signs, - ahead of a thing 39 times", Checks.text(x, Checks.times("-", 39) + "h").rule(), 0);
        c.due("8: 39 times, RISK", x.danger(0, 0), 0);
        Checks.text(x, Checks.times("-", 38) + "h").rule();
        c.due("8: 38 times, RISK", x.danger(0, 0), 1);
        for (String more : new String[] {"3", "+", "x", ")", "(", "+h", Checks.times("x", 40)}) refusedAll("8: more than 40, which could end", ThornHedge::rule, -41, forty + more);
        String open = Checks.times("h+", 20);
        for (String more : new String[] {"", "h", "x", "+", "(", Checks.times("h", 40)}) refusedAll("8: 40 that could go on", ThornHedge::rule, -41, open + more);
        refusedAll("8: more than 40, a ( is open", ThornHedge::rule, -41, "(" + Checks.times("h+", 19) + "h)");
        for (int p : new int[] {0, 1, 20, 38, 39}) {
            String spoilt = forty.substring(0, p) + "x" + forty.substring(p + 1);
            refusedAll("8: at " + p, ThornHedge::rule, -1 - p, spoilt, spoilt + "12");
        }
        refusedAll("8: 1 to 3 digits, the fourth", ThornHedge::rule, -4, "1234", "0000", "1234+");
        refusedAll("8: its end, too early", ThornHedge::rule, -3, "h+", "h-", "h<", "--", "h*", "((", "(h");
    }

    private static void ruleEmpty() {
        ThornHedge x = Checks.made("9", "09");
        x.guard(0, 9);
        c.due("8: an empty one, none at first", Checks.text(x, "").rule(), 0);
        c.due("8: none, h*5+g*10", x.danger(0, 0), 135);
        Checks.text(x, "1").rule();
        c.due("8: another one", x.danger(0, 0), 1);
        c.due("8: an empty one, none again", Checks.text(x, "").rule(), 0);
        c.due("8: none again, h*5+g*10", x.danger(0, 0), 135);
    }

    /** A text that was given up halfway leaves nothing in the next one. */
    private static void ruleBehindRefused() {
        String[] refused = {"-", "--", "9-", "9*-", "((", "-(-", "(1<", "1<2<", "9+(8*", "((((((", "1234", "5+", "-(5"};
        String[] rules = {"5", "h+5", "(5)", "5<6", "1+2*2", "((((5))))", "-(0-5)"};
        int[] due = {5, 5, 5, 1, 5, 5, 5};
        for (String first : refused) {
            for (int i = 0; i < rules.length; i++) {
                ThornHedge x = Checks.made("0", "01");
                c.due("8: '" + first + "' can't be", Checks.text(x, first).rule() < 0, true);
                c.due("8: '" + rules[i] + "' behind '" + first + "'", Checks.text(x, rules[i]).rule(), 0);
                c.due("8: RISK by '" + rules[i] + "' behind '" + first + "'", x.danger(0, 0), due[i]);
                c.due("40: '" + first + "' can't be", Checks.text(x, first).law() < -1, true);
                c.due("40: '" + rules[i] + "' behind '" + first + "'", Checks.text(x, rules[i]).law(), 0);
            }
        }
    }

    private static void riskBounds() {
        String[] rules = {"0", "1", "999", "998+1", "999+1", "999*999", "0-1", "-1", "-999*999", "000", "009", "5/0", "5/0+3", "0/0+4", "-5/0+6", "7/(1-1)+8",
            "1/2+5", "-1/2+5", "1/-2+5", "7/2+5", "-7/2+5", "7/-2+5", "-7/-2+5", "999/1000000", "8/4/2", "8/(4/2)", "8-4-2", "8-(4-2)", "2*3/4", "3/4*2", "2+3*4", "2*3+4",
            "-2*3+9", "9-2*3", "-(2)*-3", "9--3", "9---3+1", "1+2<4", "1<2+4", "2*3=6", "3-2>0"};
        int[] due = {0, 1, 999, 999, 999, 999, 0, 0, 0, 0, 9, 0, 3, 4, 6, 8,
            5, 5, 5, 8, 2, 2, 8, -1, 1, 4, 2, 6, 1, 0, 14, 10,
            3, 3, 6, 12, 7, 1, 1, 1, 1};
        ThornHedge x = Checks.made("0", "09");
        for (int i = 0; i < rules.length; i++) {
            boolean can = due[i] >= 0;
            c.due("8: '" + rules[i] + "' can be", Checks.text(x, rules[i]).rule(), can ? 0 : -8);
            if (can) c.due("8: RISK by '" + rules[i] + "'", x.danger(0, 0), due[i]);
        }
        // 512*512*512*16 is one more than the greatest int
        String[] wide = {"512*512*512*16", "-(512*512*512*16)", "512*512*512*16-1", "512*512*512*16/-1", "512*512*512*16/-1<0", "512*512*512*16<0", "-(512*512*512*16)<0",
            "512*512*512*16-1>0", "512*512*512*32", "512*512*512*32+7", "512*512*512*16-1+1<0", "(512*512*512*16-1)*2+9"};
        risks(wide, new int[] {0, 0, 999, 0, 1, 1, 1, 1, 0, 7, 1, 7});
    }

    private static void riskWeek() {
        ThornHedge x = Checks.made("0", "41;09");
        Checks.text(x, "w").rule();
        for (int week = 0; week < 18; week++) {
            c.due("8: w in WEEK " + week, x.danger(1, 0), week % 8);
            x.weeks(1);
        }
        x.weeks(60);
        x.weeks(60);
        c.due("8: w in WEEK 138", x.danger(1, 0), 2);
    }

    private static void riskOthers() {
        ThornHedge x = Checks.made("000000000000", "09");
        Checks.text(x, "n").rule();
        for (int m = 0; m < 12; m++) {
            c.due("8: n, " + m + " have MEN", x.danger(0, 11), m);
            x.guard(m, 1 + m % 9);
        }
        c.due("8: n, its own do not count", x.danger(0, 11), 11);
        c.due("8: n, nor here", x.danger(0, 0), 11);
        x.guard(3, 0);
        c.due("8: n, one less", x.danger(0, 0), 10);
        c.due("8: n, at the one without", x.danger(0, 3), 11);
        int[] men = {1, 2, 1, 0, 9, 0, 1, 0};
        for (int n : men) {
            x.guard(3, n);
            c.due("8: n, " + n + " MEN there", x.danger(0, 0), n > 0 ? 11 : 10);
        }
        x.undo();
        c.due("8: n, undone", x.danger(0, 0), 11);
        x.keep(0);
        x.guard(3, 0);
        x.guard(4, 0);
        x.again(0);
        c.due("8: n, again", x.danger(0, 0), 11);
        ThornHedge load = Checks.made("9", "01;02;09");
        Checks.text(load, "l").rule();
        load.guard(0, 5);
        load.weeks(3);
        for (int i = 0; i < 3; i++) c.due("8: l is LOAD", load.danger(i, 0), load.carrier(i, 1));
    }

    // ---- promise 19

    private static void logSigns() {
        for (String ahead : new String[] {"", "w9", "ma0", "pl9", "gl", "c99", "d00", "w0ga"}) stands("19: an act", ThornHedge::log, -1, ahead, "wmpgcd");
        stands("19: w", ThornHedge::log, -1, "w", DIGITS);
        stands("19: m", ThornHedge::log, -1, "m", LETTERS);
        stands("19: m and a letter", ThornHedge::log, -1, "ml", DIGITS);
        stands("19: p", ThornHedge::log, -1, "p", LETTERS);
        stands("19: p and a letter", ThornHedge::log, -1, "pa", "123456789");
        stands("19: g", ThornHedge::log, -1, "g", LETTERS);
        for (String first : new String[] {"c", "d"}) {
            stands("19: " + first, ThornHedge::log, -1, first, DIGITS);
            stands("19: " + first + " and a digit", ThornHedge::log, -1, first + "9", DIGITS);
        }
        stands("19: behind 60", ThornHedge::log, -1, Checks.times("w0", 30), "");
        stands("19: the sixtieth", ThornHedge::log, -1, Checks.times("w0", 29) + "w", DIGITS);
    }

    private static void logEnds() {
        for (String ahead : new String[] {"", "w1", "pa1md9"}) {
            int p = ahead.length();
            refusedAll("19: its end, too early behind one", ThornHedge::log, -2 - p, ahead + "w", ahead + "m", ahead + "p", ahead + "g", ahead + "c", ahead + "d");
            refusedAll("19: its end, too early behind two", ThornHedge::log, -3 - p, ahead + "ma", ahead + "pa", ahead + "c1", ahead + "d1");
            refusedAll("19: a sign that can't stand there, nothing is done", ThornHedge::log, -1 - p, ahead + "x", ahead + "0", ahead + "xw1");
        }
    }

    private static void logLengths() {
        String sixty = Checks.times("c01d02", 10);
        ThornHedge x = new ThornHedge();
        c.due("19: 60 signs", Checks.text(x, sixty).log(), 20);
        c.row("19: 60 signs", x, 0, 0);
        for (String more : new String[] {"w", "w1", "x", "0", Checks.times("w0", 10)}) refusedAll("19: more than 60, which could end", ThornHedge::log, -61, sixty + more);
        String open = sixty.substring(0, 57) + "w1c";
        for (String more : new String[] {"", "1", "12", "x"}) refusedAll("19: 60 that could go on", ThornHedge::log, -61, open + more);
        String wider = sixty.substring(0, 57) + "w1x";
        refusedAll("19: the sixtieth can't stand there", ThornHedge::log, -60, wider, wider + "w1");
        refusedAll("19: the first can't stand there", ThornHedge::log, -1, "x" + sixty, "x" + sixty.substring(1));
    }

    // ---- promise 40

    private static void lawFaults() {
        refusedAll("40: at 0", ThornHedge::law, -10000, "x", ")", "+h", "~" + Checks.times("h", 79));
        refusedAll("40: at 1", ThornHedge::law, -10001, "hh", "h(", "-");
        refusedAll("40: its end, too early", ThornHedge::law, -10002, "h+", "(h");
        refusedAll("40: at 39", ThornHedge::law, -10039, Checks.times("h+", 19) + "1x", Checks.times("h+", 19) + "1x+");
        refusedAll("40: 40, if it has more", ThornHedge::law, -10040, Checks.times("h+", 19) + "123", Checks.times("h+", 19) + "12x", Checks.times("h+", 20), Checks.times("h+", 40));
        c.due("40: 40 signs", Checks.text(new ThornHedge(), Checks.times("h+", 19) + "12").law(), 0);
        c.refusedText("40: all full", Twins::full, "(((((", ThornHedge::law, -10004);
        ThornHedge x = Checks.made("0", "01");
        Checks.text(x, "14").rule();
        Checks.text(x, "99+").law();
        c.due("40: a refused law is not THE RULE", x.danger(0, 0), 14);
        Checks.text(x, "99").law();
        c.due("40: nor is one that can be", x.danger(0, 0), 14);
    }
}
