import java.lang.reflect.Constructor;
import java.lang.reflect.Field;
import java.lang.reflect.Method;
import java.lang.reflect.Modifier;
import java.nio.file.Files;
import java.nio.file.Paths;
import java.util.Arrays;
import java.util.Set;
import java.util.TreeSet;
import java.util.regex.Matcher;
import java.util.regex.Pattern;

/** The public face of the document, and what of LANGUAGE.md can be seen from outside. */
public final class FaceTest {
    private static final Checks c = new Checks("FaceTest");

    private static final String FACE = "int sign(int) / boolean end(int) / int line() / int carriers() / int weather() / int mouths() / int rule() / "
        + "int mile(int,int) / int carrier(int,int) / int mouth(int,int) / int danger(int,int) / int sheet(int,int,int,int) / int price(int,int) / "
        + "int guard(int,int) / int plant(int,int) / int gate(int) / int weeks(int) / int log() / int undo() / int goes() / int ahead(int) / "
        + "int holds() / int keeps() / int tax() / int without(int) / int beats(int) / int thorns(int) / int walls() / int posts(int) / "
        + "int rounds(int,int) / int reward(int) / int pays(int) / int caught(int,int,int) / int lasts(int,int) / int heard(int,int) / int forget() / "
        + "int fits() / int ask() / int law() / int rests(int,int) / int years(int,int) / boolean keep(int) / boolean again(int) / int count(int) / long row(int)";

    public static void main(String[] args) throws Exception {
        face();
        members();
        source(new String(Files.readAllBytes(Paths.get("src/main/java/ThornHedge.java"))));
        room();
        c.end();
    }

    private static void face() throws Exception {
        Set<String> due = new TreeSet<>(Arrays.asList(FACE.split(" / ")));
        Set<String> is = new TreeSet<>();
        for (Method m : ThornHedge.class.getDeclaredMethods()) {
            if (Modifier.isPrivate(m.getModifiers()) || m.isSynthetic()) continue;
            StringBuilder s = new StringBuilder(m.getReturnType().getName()).append(' ').append(m.getName()).append('(');
            for (Class<?> p : m.getParameterTypes()) s.append(s.charAt(s.length() - 1) == '(' ? "" : ",").append(p.getName());
            is.add(s.append(')').toString());
            c.due("face: " + m.getName() + " is public and of an object", m.getModifiers(), Modifier.PUBLIC);
            boolean throwing = Arrays.asList("mile", "carrier", "mouth", "row").contains(m.getName());
            String thrown = Arrays.toString(m.getExceptionTypes());
            c.due("face: what " + m.getName() + " throws", thrown, throwing ? "[class java.util.NoSuchElementException]" : "[]");
        }
        c.due("face: methods " + is, is.equals(due), true);
        Constructor<?>[] made = ThornHedge.class.getDeclaredConstructors();
        c.due("face: constructors", made.length, 1);
        c.due("face: the constructor is public", made[0].getModifiers(), Modifier.PUBLIC);
        c.due("face: the class is public and final", ThornHedge.class.getModifiers(), Modifier.PUBLIC | Modifier.FINAL);
        Field none = ThornHedge.class.getDeclaredField("NONE");
        c.due("face: NONE is a public constant", none.getModifiers(), Modifier.PUBLIC | Modifier.STATIC | Modifier.FINAL);
        c.due("face: NONE is an int", none.getType() == int.class, true);
        c.due("face: NONE", none.getInt(null), -1);
        for (Field f : ThornHedge.class.getDeclaredFields()) {
            boolean open = f.getName().equals("NONE");
            c.due("face: field " + f.getName(), Modifier.isPrivate(f.getModifiers()), !open);
        }
    }

    private static void members() {
        Set<String> open = new TreeSet<>();
        for (Method m : ThornHedge.class.getDeclaredMethods()) if (Modifier.isPublic(m.getModifiers())) open.add(m.getName());
        Class<?>[] inside = ThornHedge.class.getDeclaredClasses();
        c.due("rule 11: at most twelve classes", inside.length + 1 <= 12, true);
        for (Class<?> k : inside) {
            c.due("rule 1: " + k.getName() + " is static", Modifier.isStatic(k.getModifiers()), true);
            checkClass(k, open);
        }
        checkClass(ThornHedge.class, open);
    }

    private static void checkClass(Class<?> k, Set<String> open) {
        int fields = 0;
        for (Field f : k.getDeclaredFields()) {
            if (Modifier.isStatic(f.getModifiers())) c.due("rule 5: " + f + " is final", Modifier.isFinal(f.getModifiers()), true);
            else fields++;
        }
        c.due("rule 11: fields of " + k.getName(), fields <= 20, true);
        for (Method m : k.getDeclaredMethods()) {
            c.due("rule 11: parameters of " + m, m.getParameterCount() <= 7, true);
            if (Modifier.isPrivate(m.getModifiers())) c.due("rule 1: the name of " + m, open.contains(m.getName()), false);
        }
    }

    private static void source(String text) {
        String[] never = {"->", "::", "\\bcatch\\b", "\\btry\\b", "\\bfinally\\b", "\\bsynchronized\\b", "\\bassert\\b", "Exact\\(", "\\bpackage\\b",
            "getMessage", "\\bdouble\\b", "\\bfloat\\b", "while \\(true\\)", "for \\(;;", "\\bstatic \\{", "\\binstanceof\\b", "\\bString\\b", "\\bSystem\\.(?!arraycopy)"};
        String code = text.replaceAll("(?s)/\\*.*?\\*/", "").replaceAll("//[^\n]*", "");
        for (String n : never) c.due("source: no " + n, Pattern.compile(n).matcher(code).find(), false);
        Matcher imports = Pattern.compile("import ([^;]+);").matcher(code);
        while (imports.find()) {
            boolean known = imports.group(1).equals("java.util.Arrays") || imports.group(1).equals("java.util.NoSuchElementException");
            c.due("rule 4: import " + imports.group(1), known, true);
        }
        Matcher thrown = Pattern.compile("throw new (\\w+)\\(").matcher(code);
        while (thrown.find()) c.due("rule 6: throws " + thrown.group(1), thrown.group(1).equals("NoSuchElementException"), true);
        Matcher library = Pattern.compile("\\b(Math|Integer|Long|Arrays)\\.(\\w+)").matcher(code);
        Set<String> known = new TreeSet<>(Arrays.asList("min", "max", "floorMod", "bitCount", "fill"));
        while (library.find()) c.due("rule 4: " + library.group(), known.contains(library.group(2)), true);
        for (int i = 0; i < text.length(); i++) if (text.charAt(i) > 127) c.due("source: signs to 127 alone, at " + i, text.charAt(i), '?');
        methodLengths(text.split("\n"));
    }

    private static void methodLengths(String[] lines) {
        int from = -1;
        String close = "";
        for (int i = 0; i < lines.length; i++) {
            Matcher head = Pattern.compile("^( {4}| {8})(?!return|throw|if|for|while|switch)[\\w\\[\\] ]*\\w+\\([^;]*\\{$").matcher(lines[i]);
            if (head.find()) {
                from = i;
                close = head.group(1) + "}";
            } else if (from >= 0 && lines[i].equals(close)) {
                c.due("rule 11: lines of '" + lines[from].trim() + "' are " + (i - from + 1), i - from + 1 <= 60, true);
                from = -1;
            }
        }
    }

    /** All calls live in one room: calls of the dearest kind are to make nothing new. */
    private static void room() {
        ThornHedge x = Checks.made("987654321987", "09;19;28;17;07;18;29;09");
        dearCalls(x);
        com.sun.management.ThreadMXBean room = (com.sun.management.ThreadMXBean) java.lang.management.ManagementFactory.getThreadMXBean();
        long id = Thread.currentThread().getId();
        long before = room.getThreadAllocatedBytes(id);
        for (int i = 0; i < 10; i++) dearCalls(x);
        long made = room.getThreadAllocatedBytes(id) - before;
        c.due("room: bytes made by 190 calls, " + made, made < 20000, true);
    }

    private static void dearCalls(ThornHedge x) {
        x.beats(4);
        x.thorns(20);
        x.pays(999);
        x.tax();
        x.ahead(99);
        x.holds();
        x.walls();
        x.posts(2);
        x.years(5, 60);
        x.weeks(9);
        x.undo();
        x.fits();
        x.ask();
        x.rests(5, 5);
        x.keep(0);
        x.again(0);
        x.sign(('h' << 8 | '+') << 16 | 'g' << 8 | '*');
        x.end(3);
        x.law();
    }
}
