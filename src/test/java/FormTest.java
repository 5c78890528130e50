import com.sun.management.ThreadMXBean;
import java.lang.management.ManagementFactory;
import java.lang.reflect.Constructor;
import java.lang.reflect.Field;
import java.lang.reflect.Method;
import java.lang.reflect.Modifier;
import java.nio.charset.StandardCharsets;
import java.nio.file.Files;
import java.nio.file.Path;
import java.util.ArrayList;
import java.util.Arrays;
import java.util.List;
import java.util.TreeSet;
import java.util.regex.Matcher;
import java.util.regex.Pattern;

/** What LANGUAGE.md asks of the form of the class, as far as a program can see it; and that calls make no objects. */
public final class FormTest extends Bench {
    private static final String FACE = "feed page law work sentence fault undo told line word reads cell cost would "
        + "ahead ends says ways strokes best unlike forged value argument common apart mends duel chance share often "
        + "deeds longest hand span image restore status count";
    private static int wrong = 0;

    public static void main(String[] args) throws Exception {
        Path root = Path.of(args.length > 0 ? args[0] : ".");
        face();
        insides();
        source(Files.readString(root.resolve("src/main/java/StruckPage.java"), StandardCharsets.UTF_8));
        room();
        System.out.println(wrong == 0 ? "the form is as asked" : wrong + " things are not as asked");
        if (wrong != 0) {
            System.exit(1);
        }
    }

    private static void ask(boolean fine, String what) {
        if (!fine) {
            wrong++;
            System.out.println("rule " + what);
        }
    }

    private static void face() throws Exception {
        Class<?> c = StruckPage.class;
        ask(Modifier.isPublic(c.getModifiers()) && Modifier.isFinal(c.getModifiers()), "1: public and final");
        TreeSet<String> seen = new TreeSet<>();
        for (Method m : c.getDeclaredMethods()) {
            if (Modifier.isPublic(m.getModifiers())) {
                ask(seen.add(m.getName()), "1: two of " + m.getName());
                ask(!Modifier.isStatic(m.getModifiers()), "1: a static face " + m.getName());
            } else {
                ask(Modifier.isPrivate(m.getModifiers()), "1: not private: " + m.getName());
            }
        }
        TreeSet<String> due = new TreeSet<>(Arrays.asList(FACE.split(" ")));
        ask(seen.equals(due), "1: the face is " + seen);
        for (Constructor<?> k : c.getDeclaredConstructors()) {
            ask(Modifier.isPublic(k.getModifiers()) && k.getParameterCount() == 0, "1: the constructor");
        }
        for (Field f : c.getDeclaredFields()) {
            ask(Modifier.isPrivate(f.getModifiers()) || f.getName().equals("NONE"), "1: not private: " + f.getName());
        }
        ask(c.getField("NONE").getInt(null) == -1, "1: NONE");
    }

    private static void insides() {
        List<String> face = Arrays.asList(FACE.split(" "));
        List<Class<?>> all = new ArrayList<>(List.of(StruckPage.class.getDeclaredClasses()));
        ask(all.size() <= 11, "11: " + all.size() + " classes inside");
        for (Class<?> c : all) {
            ask(Modifier.isStatic(c.getModifiers()) && Modifier.isPrivate(c.getModifiers()), "1: class " + c.getName());
            for (Method m : c.getDeclaredMethods()) {
                ask(!face.contains(m.getName()), "1: a name of the face in " + c.getName() + ": " + m.getName());
            }
        }
        all.add(StruckPage.class);
        for (Class<?> c : all) {
            int own = 0;
            for (Field f : c.getDeclaredFields()) {
                boolean still = Modifier.isStatic(f.getModifiers());
                own += still ? 0 : 1;
                ask(!still || Modifier.isFinal(f.getModifiers()), "5: " + f.getName() + " is static and not final");
            }
            ask(own <= 20, "11: " + own + " fields in " + c.getName());
            for (Method m : c.getDeclaredMethods()) {
                ask(m.getParameterCount() <= 7, "11: parameters of " + m.getName());
            }
        }
    }

    private static void source(String text) {
        ask(text.chars().allMatch(ch -> ch == '\n' || ch >= 32 && ch < 127), "4: signs of the source");
        String[] never = {"->", "::", "try", "catch", "finally", "assert", "synchronized", "Exact(", "System.out",
            "package ", "hashCode", "toString", "static {", "Random", "Thread", "currentTime", "nanoTime", "java.io"};
        for (String s : never) {
            ask(!text.contains(s), "3, 4, 6 or 13: " + s);
        }
        Matcher imports = Pattern.compile("(?m)^import (.*);$").matcher(text);
        while (imports.find()) {
            ask(imports.group(1).equals("java.util.NoSuchElementException"), "4: import " + imports.group(1));
        }
        Matcher thrown = Pattern.compile("throw (.*)").matcher(text);
        while (thrown.find()) {
            ask(thrown.group(1).matches("new (IllegalArgument|NoSuchElement)Exception\\(\"[ a-z]*\"\\);"),
                "6: throw " + thrown.group(1));
        }
        Matcher calls = Pattern.compile("\\b(Integer|Long|Math|System|Arrays|String)\\.(\\w+)").matcher(text);
        while (calls.find()) {
            ask(List.of("bitCount", "min", "max", "arraycopy").contains(calls.group(2)), "4: " + calls.group());
        }
        longMethods(text);
    }

    private static void longMethods(String text) {
        String[] lines = text.split("\n");
        for (int i = 0; i < lines.length; i++) {
            ask(lines[i].length() <= 120, "of this house: line " + (i + 1) + " is long");
            Matcher head = Pattern.compile("^( +)(private|public) .*\\) (throws .*)?\\{$").matcher(lines[i]);
            if (head.find()) {
                int end = i;
                while (end < lines.length && !lines[end].equals(head.group(1) + "}")) {
                    end++;
                }
                ask(end - i <= 60, "11: the method at line " + (i + 1) + " is long");
            }
        }
    }

    /** All calls of a run live in one room: none but a refused one may make objects. */
    private static void room() {
        ThreadMXBean bean = (ThreadMXBean) ManagementFactory.getThreadMXBean();
        long me = Thread.currentThread().getId();
        StruckPage[] warm = {new StruckPage(), new StruckPage()};
        use(warm[0]);
        long before = bean.getThreadAllocatedBytes(me);
        StruckPage made = new StruckPage();
        long making = bean.getThreadAllocatedBytes(me) - before;
        use(made);
        long using = bean.getThreadAllocatedBytes(me) - before - making;
        ask(making < 40000, "12: a new object takes " + making + " bytes");
        ask(using < 20000, "12: 400 calls take " + using + " bytes");
    }

    private static void use(StruckPage used) {
        x = used;
        page("line 1 0 5;line 8 9 2;line 4 1 0;line 6 0 1;line 5 0 5 9;cell 1 3;ink 200;");
        law("words*3+struck-first+line*2+left/4-ink/50+cell");
        sentence("1;5;9;");
        for (int i = 0; i < 16; i++) {
            work("again 60[strike 0 0 1;run 99;begin;wipe;];");
        }
        for (int i = 0; i < 20; i++) {
            x.image();
            x.restore();
            x.ends();
            x.ahead(999, 1);
            x.strokes();
            x.best();
            x.ways();
            x.unlike(12);
            x.forged(0);
            x.argument(31, 1);
            x.common(0, 4);
            x.chance(12, 3, 5, 0);
            x.share(0, 31, 9);
            x.often(0);
            x.span(i, 20, 96, 16, 0, 1);
            x.hand(i, 96, 16, 0);
            x.undo();
        }
    }
}
