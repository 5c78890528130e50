import java.io.IOException;
import java.nio.charset.StandardCharsets;
import java.nio.file.Files;
import java.nio.file.Path;
import java.util.ArrayList;
import java.util.List;
import java.util.function.LongSupplier;

/** What the tests of the promises share: an object on the bench, what is due of it, and the telling if it is not so. */
abstract class Bench {
    static final String ILLEGAL = "IllegalArgumentException";
    static final String NO_SUCH = "NoSuchElementException";
    static final int NONE = StruckPage.NONE;
    static final int LOWEST = Integer.MIN_VALUE;
    static final int HIGHEST = Integer.MAX_VALUE;

    static StruckPage x;

    private static final List<String> QUOTES = new ArrayList<>();
    private static String about = "";
    private static int nth = 0;
    private static int wrong = 0;

    // ---- what a check is for ----

    static void of(int promise) {
        about = "promise " + promise;
        nth = 0;
    }

    /** What follows is the test of this sentence of the document, which must stand there word by word. */
    static void says(String quote) {
        about = "\"" + quote + "\"";
        nth = 0;
        QUOTES.add(quote);
    }

    static void end(String[] args) throws IOException {
        Path document = Path.of(args.length > 0 ? args[0] : ".").resolve("../shared/DOC.md");
        if (!QUOTES.isEmpty() && Files.exists(document)) {
            String text = Files.readString(document, StandardCharsets.UTF_8);
            for (String quote : QUOTES) {
                if (!text.contains(quote)) {
                    wrong++;
                    System.out.println("the document does not say: " + quote);
                }
            }
        }
        System.out.println(wrong == 0 ? "all answers are as due" : wrong + " answers are not as due");
        if (wrong != 0) {
            System.exit(1);
        }
    }

    private static void tell(String what) {
        wrong++;
        int line = 0;
        for (StackTraceElement frame : new Throwable().getStackTrace()) {
            if (!frame.getClassName().equals("Bench")) {
                line = frame.getLineNumber();
                break;
            }
        }
        System.out.println(about + ", check " + nth + " (line " + line + "): " + what);
    }

    // ---- checks ----

    static void due(long got, long want) {
        nth++;
        if (got != want) {
            tell("answered " + got + ", due is " + want);
        }
    }

    static void due(boolean got, boolean want) {
        due(got ? 1 : 0, want ? 1 : 0);
    }

    static void alike(String got, String want) {
        nth++;
        if (!got.equals(want)) {
            tell("there is " + got + ", due is " + want);
        }
    }

    /** The call throws this, is counted by it, and changes nothing else. */
    static void refused(String name, LongSupplier call) {
        nth++;
        int which = name.equals(NO_SUCH) ? 0 : 1;
        int before = x.status(which);
        int others = x.status(1 - which);
        int tape = x.count(1);
        int place = x.fault();
        String got = "nothing";
        try {
            call.getAsLong();
        } catch (RuntimeException e) {
            got = e.getClass().getSimpleName();
        }
        if (!got.equals(name)) {
            tell("threw " + got + ", due is " + name);
        } else if (x.status(which) != before + 1 || x.status(1 - which) != others) {
            tell("was not counted as refused by " + name);
        } else if (x.count(1) != tape || x.fault() != place) {
            tell("was refused, but the tape or the fault did not stay");
        }
    }

    static void faulty(int answer, int kind, int place) {
        due(answer, kind - 10);
        due(x.fault(), place);
    }

    /** A work of one step, which is refused and changes nothing that work could change. */
    static void refusedStep(String step) {
        String before = desk();
        due(work(step), 0);
        due(x.told(9), 1);
        alike(desk(), before);
    }

    /** A call that answers as due, with all that can be told as it was ahead of it. */
    static void asked(LongSupplier call, long want) {
        String before = all();
        due(call.getAsLong(), want);
        alike(all(), before);
    }

    // ---- what stands there ----

    /** All that work changes. */
    static String desk() {
        StringBuilder b = new StringBuilder("struck");
        for (int l = 0; l < x.told(0); l++) {
            b.append(' ').append(x.line(l, 2));
        }
        b.append(", ink ").append(x.told(3)).append(", strokes ").append(x.told(4));
        b.append(", at ").append(x.told(5)).append(", deeds ").append(x.told(6)).append(", cells");
        for (int c = 0; c < 4; c++) {
            b.append(' ').append(x.cell(c));
        }
        return b.toString();
    }

    /** All that can be told, but for refused calls. */
    static String all() {
        StringBuilder b = new StringBuilder(desk());
        b.append(", lines ").append(x.told(0)).append(", words ").append(x.told(1)).append(':');
        for (int l = 0; l < x.told(0); l++) {
            b.append(' ').append(x.line(l, 0)).append(' ').append(x.line(l, 4));
        }
        b.append(", sentence ").append(x.told(8)).append(' ').append(x.ways());
        b.append(", refused ").append(x.told(9)).append(", images ").append(x.count(0));
        b.append(", tape ").append(x.count(1)).append(", works ").append(x.count(2)).append(", fault ");
        b.append(x.fault()).append(", law ").append(x.would(1, 0, 0, 0, 0, 0, 0));
        b.append(' ').append(x.would(8, 7, 6, 5, 4, 3, 2)).append(", apart ").append(x.apart());
        return b.toString();
    }

    // ---- calls ----

    static void put(String text) {
        for (int i = 0; i < text.length(); i += 20) {
            int[] five = new int[5];
            for (int k = 0; k < 20; k++) {
                five[k / 4] = five[k / 4] << 8 | (i + k < text.length() ? text.charAt(i + k) : 0);
            }
            x.feed(five[0], five[1], five[2], five[3], five[4]);
        }
    }

    static int page(String text) {
        put(text);
        return x.page(text.length());
    }

    static int law(String text) {
        put(text);
        return x.law(text.length());
    }

    static int work(String text) {
        put(text);
        return x.work(text.length());
    }

    static int sentence(String text) {
        put(text);
        return x.sentence(text.length());
    }

    static void bare() {
        x = new StruckPage();
    }

    static void fresh(String text) {
        bare();
        if (page(text) < 0) {
            tell("the page of the test itself is faulty");
        }
    }

    static String times(int n, String text) {
        return text.repeat(n);
    }

    static void cells(int zero, int one, int two, int three) {
        due(x.cell(0), zero);
        due(x.cell(1), one);
        due(x.cell(2), two);
        due(x.cell(3), three);
    }
}
