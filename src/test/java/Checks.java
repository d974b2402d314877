import java.util.NoSuchElementException;

/** What the tests share: texts brought to an object, answers counted. */
final class Checks {
    private final String name;
    private int passed = 0;
    private int wrong = 0;

    Checks(String name) {
        this.name = name;
    }

    interface Call {
        long answer();
    }

    void due(String what, long got, long want) {
        if (got == want) {
            passed++;
        } else {
            wrong++;
            System.out.println(name + ": " + what + " is " + got + ", due is " + want);
        }
    }

    void due(String what, boolean got, boolean want) {
        due(what, got ? 1 : 0, want ? 1 : 0);
    }

    void noSuchElement(String what, Call call) {
        int thrown = 0;
        try {
            call.answer();
        } catch (NoSuchElementException e) {
            thrown = 1;
        }
        due(what + " throws", thrown, 1);
    }

    /** The ROW has these numbers and no more. */
    void row(String what, ThornHedge x, long... numbers) {
        due(what + ", numbers of the ROW", x.count(13), numbers.length);
        for (int i = 0; i < numbers.length && i < x.count(13); i++) {
            due(what + ", row(" + i + ")", x.row(i), numbers[i]);
        }
        noSuchElement(what + ", behind the ROW", () -> x.row(numbers.length));
    }

    void end() {
        System.out.println(name + ": " + passed + " checks as due, " + wrong + " not");
        if (wrong != 0) System.exit(1);
    }

    /** THE TEXT becomes this, whatever it was. */
    static ThornHedge text(ThornHedge x, String s) {
        x.end(0);
        for (int p = 0; p < s.length(); p += 4) {
            int v = 0;
            for (int i = 0; i < 4; i++) v = v << 8 | (p + i < s.length() ? s.charAt(p + i) : '!');
            x.sign(v);
        }
        x.end(s.length());
        return x;
    }

    static ThornHedge made(String line, String carriers) {
        ThornHedge x = new ThornHedge();
        text(x, line).line();
        text(x, carriers).carriers();
        return x;
    }

    static String times(String s, int n) {
        StringBuilder all = new StringBuilder();
        for (int i = 0; i < n; i++) all.append(s);
        return all.toString();
    }
}
