import java.util.NoSuchElementException;

/**
 * Two objects made alike, one of which had a call more: all that can be seen of both, and all that
 * they answer then, tells whether that call changed something.
 */
final class Twins {
    interface Maker {
        ThornHedge make();
    }

    interface Asked {
        long of(ThornHedge x);
    }

    interface AskedWith {
        long of(ThornHedge x, int v);
    }

    static final long THROWN = Long.MIN_VALUE;
    static final int[] FAR = {Integer.MIN_VALUE, Integer.MAX_VALUE};

    private Twins() {
    }

    static long answer(ThornHedge x, Asked asked) {
        try {
            return asked.of(x);
        } catch (NoSuchElementException e) {
            return THROWN;
        }
    }

    /** The object is used up by this: acts are undone, kept ones come again, THE TEXT is read. */
    static String all(ThornHedge x, boolean row, boolean text) {
        StringBuilder s = new StringBuilder();
        look(s, x);
        if (row) {
            s.append("\nrow");
            for (int i = 0; i < x.count(13); i++) s.append(' ').append(x.row(i));
        }
        if (text) s.append("\nsigns ").append(x.count(14));
        s.append("\nfits ").append(x.fits()).append(" heard ").append(x.count(11));
        s.append("\nahead");
        for (int n = 0; n <= 21; n++) s.append(' ').append(x.ahead(n)).append(':').append(x.row(0));
        int left = x.count(12);
        for (int i = 0; i <= left; i++) {
            s.append("\nundo ").append(x.undo());
            look(s, x);
        }
        for (int i = 0; i < 3; i++) {
            s.append("\nagain ").append(x.again(i));
            look(s, x);
        }
        if (text) {
            s.append("\nlog ").append(x.log());
            look(s, x);
        }
        return s.toString();
    }

    private static void look(StringBuilder s, ThornHedge x) {
        s.append("\ncounts");
        for (int what = 0; what <= 12; what++) s.append(' ').append(x.count(what));
        s.append("\nmiles");
        for (int m = 0; m < x.count(0); m++) s.append(' ').append(x.mile(m, 0)).append(x.mile(m, 1)).append(x.mile(m, 2));
        s.append("\ncarriers");
        for (int c = 0; c < x.count(1); c++) for (int what = 0; what < 4; what++) s.append(' ').append(x.carrier(c, what));
        s.append("\nmouths");
        for (int i = 0; i < x.count(2); i++) s.append(' ').append(x.mouth(i, 0)).append(',').append(x.mouth(i, 1));
    }

    /** Of each sort something, nothing of it full. */
    static ThornHedge some() {
        ThornHedge x = Checks.made("52G7", "03;14;22;35;46");
        Checks.text(x, "frdaf").weather();
        Checks.text(x, "10,8;5,30;3,99").mouths();
        Checks.text(x, "h*4+g*9+w").rule();
        x.heard(2, 1);
        x.heard(1, 4);
        x.guard(1, 3);
        x.keep(0);
        x.weeks(2);
        x.price(1, 33);
        x.keep(2);
        x.plant(0, 2);
        x.gate(3);
        x.goes();
        Checks.text(x, "mb4w2c07d44pa1gc");
        return x;
    }

    /** Of all as much as there can be. */
    static ThornHedge full() {
        ThornHedge x = Checks.made("9G9G9G9G9G98", "09;19;29;39;49;08;18;28");
        Checks.text(x, Checks.times("ffrda", 4)).weather();
        Checks.text(x, Checks.times("10,10;", 7) + "99,99").mouths();
        Checks.text(x, Checks.times("h+", 19) + "12").rule();
        for (int i = 0; i < 12; i++) x.heard(1, 1 + i % 7);
        for (int i = 0; i < 17; i++) x.guard(i % 12, 9);
        for (int i = 0; i < 3; i++) {
            x.keep(i);
            x.weeks(i);
        }
        x.beats(1);
        Checks.text(x, Checks.times("ma1w", 20));
        return x;
    }

    /** The last value that is taken and the first that is refused on each side, and the farthest. */
    static int[] outside(int from, int to) {
        return new int[] {from - 1, to + 1, Integer.MIN_VALUE, Integer.MAX_VALUE};
    }
}
