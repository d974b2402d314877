import java.util.NoSuchElementException;

/** What the tests share: texts brought to an object, answers counted. */
final class Checks {
    private final String name;
    private int passed = 0;
    private int wrong = 0;

    Checks(String name) {
        this.name = name;
    }

    interface Call {
        long answer();
    }

    void due(String what, long got, long want) {
        if (got == want) {
            passed++;
        } else {
            wrong++;
            System.out.println(name + ": " + what + " is " + got + ", due is " + want);
        }
    }

    void due(String what, boolean got, boolean want) {
        due(what, got ? 1 : 0, want ? 1 : 0);
    }

    void due(String what, String got, String want) {
        due(what, got.equals(want), true);
        if (!got.equals(want)) System.out.println("is:" + got + "\ndue:" + want);
    }

    int checked() {
        return passed + wrong;
    }

    void noSuchElement(String what, Call call) {
        int thrown = 0;
        try {
            call.answer();
        } catch (NoSuchElementException e) {
            thrown = 1;
        }
        due(what + " throws", thrown, 1);
    }

    /** The ROW has these numbers and no more. */
    void row(String what, ThornHedge x, long... numbers) {
        due(what + ", numbers of the ROW", x.count(13), numbers.length);
        for (int i = 0; i < numbers.length && i < x.count(13); i++) {
            due(what + ", row(" + i + ")", x.row(i), numbers[i]);
        }
        noSuchElement(what + ", behind the ROW", () -> x.row(numbers.length));
    }

    /** Both are used up by this. */
    void alike(String what, ThornHedge x, ThornHedge twin, boolean row, boolean text) {
        String is = Twins.all(x, row, text), due = Twins.all(twin, row, text);
        due(what + ", nothing changes", is, due);
    }

    /** The call answers this, and nothing at all is changed by it. */
    void refused(String what, Twins.Maker maker, Twins.Asked asked, long due) {
        ThornHedge x = maker.make();
        due(what, Twins.answer(x, asked), due);
        alike(what, x, maker.make(), true, true);
    }

    void refused(String what, Twins.Maker maker, Twins.Asked asked) {
        refused(what, maker, asked, ThornHedge.NONE);
    }

    /** The call that reads THE TEXT answers this; nothing but THE TEXT, now empty, is changed. */
    void refusedText(String what, Twins.Maker maker, String text, Twins.Asked asked, long due) {
        ThornHedge x = Checks.text(maker.make(), text);
        due(what + " of '" + text + "'", asked.of(x), due);
        due(what + " of '" + text + "' empties THE TEXT", x.count(14), 0);
        alike(what + " of '" + text + "'", x, maker.make(), true, false);
    }

    /** First and last are taken; those beside them and the farthest ints are refused. */
    void range(String what, Twins.Maker maker, int from, int to, Twins.AskedWith asked) {
        for (int v : new int[] {from, to}) due(what + " with " + v + " is taken", asked.of(maker.make(), v) != ThornHedge.NONE, true);
        for (int v : Twins.outside(from, to)) refused(what + " with " + v, maker, x -> asked.of(x, v));
    }

    /** The question leaves all but the ROW as it was, THE TEXT too. */
    void question(String what, Twins.Maker maker, Twins.Asked asked) {
        ThornHedge x = maker.make();
        asked.of(x);
        alike(what, x, maker.make(), false, true);
    }

    void end() {
        System.out.println(name + ": " + passed + " checks as due, " + wrong + " not");
        if (wrong != 0) System.exit(1);
    }

    /** THE TEXT becomes this, whatever it was. */
    static ThornHedge text(ThornHedge x, String s) {
        x.end(0);
        for (int p = 0; p < s.length(); p += 4) {
            int v = 0;
            for (int i = 0; i < 4; i++) v = v << 8 | (p + i < s.length() ? s.charAt(p + i) : '!');
            x.sign(v);
        }
        x.end(s.length());
        return x;
    }

    static ThornHedge made(String line, String carriers) {
        ThornHedge x = new ThornHedge();
        text(x, line).line();
        text(x, carriers).carriers();
        return x;
    }

    static String times(String s, int n) {
        StringBuilder all = new StringBuilder();
        for (int i = 0; i < n; i++) all.append(s);
        return all.toString();
    }
}
