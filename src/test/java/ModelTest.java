import java.lang.reflect.InvocationTargetException;
import java.lang.reflect.Method;
import java.math.BigInteger;
import java.util.ArrayDeque;
import java.util.ArrayList;
import java.util.Arrays;
import java.util.Collections;
import java.util.HashMap;
import java.util.List;
import java.util.Map;
import java.util.NoSuchElementException;
import java.util.Random;

/**
 * Plays long runs of calls, drawn by fixed seeds, against a second telling of the document that is written as plainly
 * as can be (tokens, trees, breadth-first search, tries of all sets of words), and asks that all answers are alike.
 */
public final class ModelTest {
    private static final int RUNS = 1500;
    private static int wrong = 0;

    public static void main(String[] args) throws Exception {
        Map<String, Method> face = new HashMap<>();
        for (Method m : StruckPage.class.getDeclaredMethods()) {
            if (java.lang.reflect.Modifier.isPublic(m.getModifiers())) {
                face.put(m.getName(), m);
            }
        }
        Map<String, Method> model = new HashMap<>();
        for (Method m : Model.class.getDeclaredMethods()) {
            if (face.containsKey(m.getName())) {
                model.put(m.getName(), m);
            }
        }
        if (face.size() != 39 || model.size() != 39) {
            System.out.println("the face has " + face.size() + " methods, the model " + model.size() + " of them");
            System.exit(1);
        }
        Map<String, Integer> kinds = new HashMap<>();
        for (int run = 0; run < RUNS && wrong < 20; run++) {
            new Player(run, face, model, kinds).play();
        }
        for (String need : Player.NEEDED) {
            if (!kinds.containsKey(need)) {
                wrong++;
                System.out.println("no run came to " + need);
            }
        }
        System.out.println(wrong == 0 ? "model and class answer alike" : wrong + " answers are not alike");
        if (wrong != 0) {
            System.exit(1);
        }
    }

    /** One run on one new object of each. */
    static final class Player {
        static final List<String> NEEDED = List.of(
            "page -7", "page -8", "page -9", "page fine", "law -7", "law -8", "law -9", "law 1", "work -7", "work -8",
            "work -9", "work -20", "work fine", "sentence -7", "sentence -8", "sentence -9", "sentence fine",
            "feed -1", "undo -1", "image -1", "restore -1", "ends -1", "ends fine", "strokes -1", "strokes fine",
            "forged fine", "argument fine", "argument -1", "apart fine", "mends fine");
        final Random random;
        final int run;
        final StruckPage page = new StruckPage();
        final Model model = new Model();
        final Map<String, Method> face;
        final Map<String, Method> faceOfModel;
        final Map<String, Integer> kinds;
        final List<String> story = new ArrayList<>();
        int calls = 0;
        boolean stopped = false;

        Player(int run, Map<String, Method> face, Map<String, Method> faceOfModel, Map<String, Integer> kinds) {
            this.run = run;
            this.random = new Random(run);
            this.face = face;
            this.faceOfModel = faceOfModel;
            this.kinds = kinds;
        }

        void play() throws Exception {
            if (random.nextInt(10) > 0) {
                text("page", pageText());
            }
            while (calls < 512 && !stopped) {
                int r = random.nextInt(100);
                if (r < 1) {
                    text("page", pageText());
                } else if (r < 3) {
                    text("law", lawText());
                } else if (r < (run % 5 == 0 ? 30 : 8)) {
                    text("work", workText());
                } else if (r < (run % 5 == 0 ? 32 : 12)) {
                    text("sentence", sentenceText());
                } else {
                    any();
                }
            }
        }

        int below(int n) {
            return random.nextInt(n);
        }

        String blanks() {
            int r = below(8);
            return r == 0 ? "  " : r < 4 ? " " : "";
        }

        String number(int n) {
            return (below(30) == 0 ? "00" : "") + n;
        }

        int nearly(int high) {
            return below(60) == 0 ? high + 1 + below(3) * 40 : below(high + 1);
        }

        String pageText() {
            StringBuilder b = new StringBuilder();
            int clauses = below(25) == 0 ? 50 + below(14) : 1 + below(9);
            int alphabet = below(2) == 0 ? 15 : 1 + below(10);
            int lines = 0;
            for (int i = 0; i < clauses; i++) {
                int r = below(6);
                boolean wantsLine = r > 1 && (lines < 6 || below(12) == 0);
                if (wantsLine) {
                    b.append(blanks()).append("line");
                    int words = below(40) == 0 ? 9 : 1 + below(8);
                    for (int w = 0; w < words; w++) {
                        b.append(' ').append(number(below(80) == 0 ? 16 : below(alphabet + 1)));
                    }
                    lines++;
                } else if (r % 2 == 0) {
                    b.append(blanks()).append("cell ").append(number(nearly(3))).append(' ').append(nearly(99));
                } else {
                    b.append(blanks()).append("ink ").append(number(nearly(200)));
                }
                b.append(blanks()).append(';');
            }
            return spoilt(b.append(blanks()).toString());
        }

        String lawText() {
            String law = sum(below(3) == 0 ? 7 : 2);
            return spoilt(law + blanks());
        }

        String sum(int deep) {
            StringBuilder b = new StringBuilder(product(deep));
            for (int i = below(3); i > 0; i--) {
                b.append(blanks()).append(below(2) == 0 ? '+' : '-').append(blanks()).append(product(deep));
            }
            return b.toString();
        }

        String product(int deep) {
            StringBuilder b = new StringBuilder(unit(deep));
            for (int i = below(3) - 1; i > 0; i--) {
                b.append(blanks()).append("*/%".charAt(below(3))).append(blanks()).append(unit(deep));
            }
            return b.toString();
        }

        String unit(int deep) {
            int r = below(12);
            if (deep > 0 && r < 4) {
                if (r == 3) {
                    return "(" + sum(deep - 1) + blanks() + ")";
                }
                return (r == 0 ? "least" : "most") + blanks() + "[" + unit(deep - 1) + blanks() + "," + blanks()
                    + sum(deep - 1) + "]";
            }
            String[] names = {"words", "struck", "first", "line", "left", "ink", "cell"};
            return r < 8 ? names[below(7)] : number(below(3) == 0 ? nearly(999) : below(12));
        }

        String workText() {
            StringBuilder b = new StringBuilder();
            for (int i = below(7); i >= 0; i--) {
                b.append(step(below(40) == 0 ? 8 : 2));
            }
            return spoilt(b.append(blanks()).toString());
        }

        String step(int deep) {
            int r = below(14);
            String end = blanks() + ";";
            int lines = model.lines.size();
            if (deep == 8 || deep > 3 && below(4) > 0 || r == 0 && deep > 0) {
                StringBuilder b = new StringBuilder("again " + number(below(4) == 0 ? nearly(60) : below(4)));
                b.append(blanks()).append('[');
                for (int i = deep > 2 ? 1 : below(3); i > 0; i--) {
                    b.append(step(deep - 1));
                }
                return b.append(blanks()).append(']').append(end).toString();
            }
            if (r < 7) {
                int l = below(40) == 0 ? lines : below(Math.max(1, lines));
                return blanks() + "strike " + number(l) + " " + nearly(7) + " " + nearly(7) + end;
            }
            switch (r) {
                case 7: return "run " + number(nearly(99)) + end;
                case 8: return "run " + number(1 + below(5)) + end;
                case 9: return blanks() + "begin" + end;
                case 10: return "fill " + number(nearly(99)) + end;
                case 11: return "wipe" + end;
                default: return "set " + nearly(3) + " " + number(below(2) == 0 ? 0 : nearly(999)) + end;
            }
        }

        String sentenceText() {
            StringBuilder b = new StringBuilder();
            List<Integer> all = new ArrayList<>();
            for (int[] l : model.lines) {
                for (int w : l) {
                    all.add(w);
                }
            }
            if (below(4) > 0 && !all.isEmpty()) {
                // some words of the page in their order, so that the page can say them
                List<Integer> chosen = new ArrayList<>();
                for (int i = below(13); i > 0; i--) {
                    chosen.add(below(all.size()));
                }
                if (below(2) == 0) {
                    chosen.clear();
                    List<Integer> said = model.said();
                    for (int i = 0; i < said.size() && i < 13; i++) {
                        if (below(6) > 0) {
                            b.append(blanks()).append(said.get(i)).append(';');
                        }
                    }
                }
                Collections.sort(chosen);
                for (int i : chosen) {
                    b.append(blanks()).append(all.get(i)).append(blanks()).append(';');
                }
            } else {
                for (int i = below(below(8) == 0 ? 14 : 4); i > 0; i--) {
                    b.append(blanks()).append(number(nearly(15))).append(blanks()).append(';');
                }
            }
            return spoilt(b.append(blanks()).toString());
        }

        String spoilt(String s) {
            if (below(7) > 0 || s.isEmpty()) {
                return s;
            }
            StringBuilder b = new StringBuilder(s);
            int where = below(s.length());
            switch (below(4)) {
                case 0: b.deleteCharAt(where); break;
                case 1: b.setLength(where); break;
                case 2: b.insert(where, ";[](),+x 19".charAt(below(11))); break;
                default: b.setCharAt(where, (char) (below(3) == 0 ? below(256) : ";[](),*a 07".charAt(below(11))));
            }
            return b.toString();
        }

        void text(String kind, String s) throws Exception {
            int most = kind.equals("page") ? 600 : kind.equals("sentence") ? 60 : 150;
            if (s.length() > most && below(10) > 0) {
                s = s.substring(0, most);
            }
            if (!model.tape.isEmpty()) {
                call("law", 0);
            }
            for (int i = 0; i < s.length() && i < 600; i += 20) {
                int[] five = new int[5];
                for (int k = 0; k < 20; k++) {
                    int b = i + k < s.length() ? s.charAt(i + k) : below(256);
                    five[k / 4] = five[k / 4] << 8 | b;
                }
                call("feed", five);
            }
            int n = below(60) == 0 ? s.length() - 1 + below(3) : s.length();
            story.add("    text: " + s);
            call(kind, n);
            call("fault");
        }

        void any() throws Exception {
            String[] names = face.keySet().toArray(new String[0]);
            Arrays.sort(names);
            String name = names[below(names.length)];
            if (name.equals("page") || name.equals("law") || name.equals("work") || name.equals("sentence")) {
                if (below(8) > 0) {
                    return;
                }
                call(name, below(5) - 2);
                return;
            }
            // some runs are to come to the most works, and to the most images
            if ((name.equals("restore") || name.equals("undo")) && below(run % 5 == 0 ? 12 : 2) > 0) {
                return;
            }
            int[] most = mostOf(name);
            int[] args = new int[most.length];
            for (int i = 0; i < args.length; i++) {
                int r = below(50);
                args[i] = r == 0 ? -1 - below(2) * 100000 : r == 1 ? most[i] + 1 : r == 2 ? random.nextInt()
                    : r < 6 ? most[i] : below(most[i] + 1);
            }
            if (name.equals("feed") || name.equals("hand") || name.equals("span")) {
                args[0] = random.nextInt();
            }
            if (name.equals("feed")) {
                for (int i = below(40) == 0 ? 31 : 1; i > 0; i--) {
                    call(name, args);
                }
                return;
            }
            call(name, args);
        }

        int[] mostOf(String name) {
            int l = Math.max(0, model.lines.size() - 1);
            int bits = (1 << model.lines.size()) - 1;
            switch (name) {
                case "feed": return new int[] {9, 9, 9, 9, 9};
                case "told": return new int[] {10};
                case "line": return new int[] {l, 4};
                case "word": return new int[] {l, 7, 1};
                case "reads": return new int[] {30};
                case "cell": return new int[] {3};
                case "cost": return new int[] {l, 7, 7};
                case "would": return new int[] {8, 8, 7, 5, 48, 200, 999};
                case "ahead": return new int[] {below(2) == 0 ? 999 : 9, 2};
                case "unlike": return new int[] {12};
                case "forged": return new int[] {1};
                case "value": return new int[] {l};
                case "argument": return new int[] {bits, 1};
                case "common": return new int[] {l, l};
                case "duel": return new int[] {below(2) == 0 ? 99 : 3, below(2) == 0 ? 99 : 3, 2};
                case "chance": return new int[] {12, 13, 16, 1};
                case "share": return new int[] {l, bits, below(2) == 0 ? 200 : 30};
                case "often": return new int[] {1};
                case "deeds": return new int[] {15};
                case "longest": return new int[] {1};
                case "hand": return new int[] {0, 96, 16, 3};
                case "span": return new int[] {0, 20, 96, 16, 2, l};
                case "status": return new int[] {2};
                case "count": return new int[] {3};
                default: return new int[face.get(name).getParameterCount()];
            }
        }

        void call(String name, int... args) throws Exception {
            if (calls >= 512 || stopped) {
                return;
            }
            calls++;
            Object[] boxed = new Object[args.length];
            for (int i = 0; i < args.length; i++) {
                boxed[i] = args[i];
            }
            String got = answer(face.get(name), page, boxed);
            String due = answer(faceOfModel.get(name), model, boxed);
            story.add(name + Arrays.toString(args) + " => " + due);
            kinds.merge(name + " " + due, 1, Integer::sum);
            if (!due.startsWith("-") && !due.startsWith("throws")) {
                kinds.merge(name + " fine", 1, Integer::sum);
            }
            if (!got.equals(due)) {
                wrong++;
                stopped = true;
                System.out.println("run " + run + ", call " + calls + ": " + name + Arrays.toString(args) + " answered "
                    + got + ", the model " + due);
                for (String line : story) {
                    if (!line.startsWith("feed")) {
                        System.out.println("      " + line);
                    }
                }
            }
        }

        static String answer(Method m, Object on, Object[] args) throws Exception {
            try {
                return String.valueOf(m.invoke(on, args));
            } catch (InvocationTargetException e) {
                return "throws " + e.getCause().getClass().getSimpleName();
            }
        }
    }

    static final class Fault extends RuntimeException {
        final int kind;
        final int place;

        Fault(int kind, int place) {
            this.kind = kind;
            this.place = place;
        }
    }

    /** A token: n number, w word, s sign, e the end. */
    record Token(char type, String text, int place) {
        int number() {
            BigInteger n = new BigInteger(text);
            return n.bitLength() > 20 ? 1 << 20 : n.intValue();
        }
    }

    /** The tokens of a text, taken one by one. */
    static final class Tokens {
        final List<Token> all = new ArrayList<>();
        int next = 0;

        Tokens(String s) {
            int i = 0;
            while (i < s.length()) {
                char c = s.charAt(i);
                int j = i + 1;
                if (c == ' ') {
                    i++;
                    continue;
                }
                if (digit(c)) {
                    while (j < s.length() && digit(s.charAt(j))) {
                        j++;
                    }
                    all.add(new Token('n', s.substring(i, j), i));
                } else if (small(c)) {
                    while (j < s.length() && small(s.charAt(j))) {
                        j++;
                    }
                    all.add(new Token('w', s.substring(i, j), i));
                } else {
                    all.add(new Token('s', String.valueOf(c), i));
                }
                i = j;
            }
            all.add(new Token('e', "", s.length()));
        }

        static boolean digit(char c) {
            return c >= '0' && c <= '9';
        }

        static boolean small(char c) {
            return c >= 'a' && c <= 'z';
        }

        Token look() {
            return all.get(next);
        }

        boolean ended() {
            return look().type() == 'e';
        }

        Token take(char type) {
            Token t = look();
            if (t.type() != type) {
                throw new Fault(1, t.place());
            }
            next++;
            return t;
        }

        int number(int low, int high) {
            Token t = take('n');
            if (t.number() < low || t.number() > high) {
                throw new Fault(2, t.place());
            }
            return t.number();
        }

        boolean atSign(String s) {
            return look().type() == 's' && look().text().equals(s);
        }

        void sign(String s) {
            if (!atSign(s)) {
                throw new Fault(1, look().place());
            }
            next++;
        }
    }

    /** A tree of the law, worked out from the leaves up. */
    record Tree(String doing, Tree a, Tree b) {
        int worth(Map<String, Integer> names) {
            if (a == null) {
                return Tokens.digit(doing.charAt(0)) ? new BigInteger(doing).intValue() : names.get(doing);
            }
            long x = a.worth(names);
            long y = b.worth(names);
            switch (doing) {
                case "+": return (int) (x + y);
                case "-": return (int) (x - y);
                case "*": return (int) (x * y);
                case "/": return y == 0 ? 0 : (int) (x / y);
                case "%": return y == 0 ? 0 : (int) (x % y);
                case "least": return (int) Math.min(x, y);
                case "most": return (int) Math.max(x, y);
                default: throw new IllegalStateException(doing);
            }
        }
    }

    record Step(String word, List<Integer> numbers, List<Step> body) {
    }

    static final class State {
        boolean[][] struck;
        int[] cells;
        int at;
        int ink;
        int strokes;
        int deeds;

        State copy() {
            State s = new State();
            s.struck = new boolean[struck.length][];
            for (int i = 0; i < struck.length; i++) {
                s.struck[i] = struck[i].clone();
            }
            s.cells = cells.clone();
            s.at = at;
            s.ink = ink;
            s.strokes = strokes;
            s.deeds = deeds;
            return s;
        }
    }

    record Image(State state, List<State> undo) {
    }

    /** The document once more. */
    public static final class Model {
        final List<Integer> tape = new ArrayList<>();
        List<int[]> lines = new ArrayList<>();
        Tree law;
        List<Integer> sentence = new ArrayList<>();
        State now;
        List<State> undo = new ArrayList<>();
        List<Image> images = new ArrayList<>();
        int place = -1;
        int refused = 0;
        int noSuch = 0;
        int illegal = 0;
        int begun;
        int doneSteps;
        int refusedSteps;

        Model() {
            readPage("");
        }

        void need(boolean fine) {
            if (!fine) {
                illegal++;
                throw new IllegalArgumentException();
            }
        }

        void needIn(int n, int low, int high) {
            need(n >= low && n <= high);
        }

        void needLine(int l) {
            if (l < 0 || l >= lines.size()) {
                noSuch++;
                throw new NoSuchElementException();
            }
        }

        void needWord(int l, int w) {
            needLine(l);
            if (w < 0 || w >= lines.get(l).length) {
                noSuch++;
                throw new NoSuchElementException();
            }
        }

        public int feed(int a, int b, int c, int d, int e) {
            if (tape.size() + 20 > 600) {
                return -1;
            }
            for (int n : new int[] {a, b, c, d, e}) {
                for (byte x : BigInteger.valueOf(n & 0xffffffffL | 1L << 32).toByteArray()) {
                    tape.add(x & 255);
                }
                tape.remove(tape.size() - 5);
            }
            return tape.size();
        }

        String text(int n, int most) {
            needIn(n, 0, Math.min(most, tape.size()));
            StringBuilder b = new StringBuilder();
            for (int i = 0; i < n; i++) {
                b.append((char) (int) tape.get(i));
            }
            tape.clear();
            place = -1;
            return b.toString();
        }

        int faulty(Fault f) {
            place = f.place;
            return f.kind - 10;
        }

        public int page(int n) {
            String s = text(n, 600);
            try {
                return readPage(s);
            } catch (Fault f) {
                return faulty(f);
            }
        }

        int readPage(String s) {
            Tokens t = new Tokens(s);
            List<int[]> newLines = new ArrayList<>();
            int[] cells = new int[4];
            int ink = 60;
            for (int clauses = 0; !t.ended(); clauses++) {
                Token w = t.take('w');
                if (!List.of("line", "cell", "ink").contains(w.text())) {
                    throw new Fault(1, w.place());
                }
                if (clauses == 60 || w.text().equals("line") && newLines.size() == 6) {
                    throw new Fault(3, w.place());
                }
                if (w.text().equals("line")) {
                    List<Integer> words = new ArrayList<>(List.of(t.number(0, 15)));
                    while (t.look().type() == 'n') {
                        int at = t.look().place();
                        words.add(t.number(0, 15));
                        if (words.size() > 8) {
                            throw new Fault(3, at);
                        }
                    }
                    newLines.add(words.stream().mapToInt(x -> x).toArray());
                } else if (w.text().equals("cell")) {
                    int c = t.number(0, 3);
                    cells[c] = t.number(0, 99);
                } else {
                    ink = t.number(0, 200);
                }
                t.sign(";");
            }
            lines = newLines;
            now = new State();
            now.struck = new boolean[lines.size()][];
            int total = 0;
            for (int i = 0; i < lines.size(); i++) {
                now.struck[i] = new boolean[lines.get(i).length];
                total += lines.get(i).length;
            }
            now.cells = cells;
            now.ink = ink;
            law = readSum(new Tokens("1 + words / 2"), 0);
            sentence = new ArrayList<>();
            undo = new ArrayList<>();
            images = new ArrayList<>();
            refused = 0;
            return total;
        }

        public int law(int n) {
            String s = text(n, 150);
            try {
                Tokens t = new Tokens(s);
                Tree read = readSum(t, 0);
                t.take('e');
                law = read;
                return 1;
            } catch (Fault f) {
                return faulty(f);
            }
        }

        Tree readSum(Tokens t, int open) {
            Tree a = readProduct(t, open);
            while (t.atSign("+") || t.atSign("-")) {
                String s = t.take('s').text();
                a = new Tree(s, a, readProduct(t, open));
            }
            return a;
        }

        Tree readProduct(Tokens t, int open) {
            Tree a = readUnit(t, open);
            while (t.atSign("*") || t.atSign("/") || t.atSign("%")) {
                String s = t.take('s').text();
                a = new Tree(s, a, readUnit(t, open));
            }
            return a;
        }

        Tree readUnit(Tokens t, int open) {
            Token first = t.look();
            if (first.type() == 'n') {
                return new Tree("" + t.number(0, 999), null, null);
            }
            boolean opens = t.atSign("(") || first.type() == 'w' && List.of("least", "most").contains(first.text());
            if (opens && open == 6) {
                throw new Fault(3, first.place());
            }
            if (t.atSign("(")) {
                t.sign("(");
                Tree a = readSum(t, open + 1);
                t.sign(")");
                return a;
            }
            t.take('w');
            if (opens) {
                t.sign("[");
                Tree a = readSum(t, open + 1);
                t.sign(",");
                Tree b = readSum(t, open + 1);
                t.sign("]");
                return new Tree(first.text(), a, b);
            }
            if (!List.of("words", "struck", "first", "line", "left", "ink", "cell").contains(first.text())) {
                throw new Fault(1, first.place());
            }
            return new Tree(first.text(), null, null);
        }

        public int sentence(int n) {
            String s = text(n, 60);
            try {
                Tokens t = new Tokens(s);
                List<Integer> read = new ArrayList<>();
                while (!t.ended()) {
                    int at = t.look().place();
                    read.add(t.number(0, 15));
                    if (read.size() > 12) {
                        throw new Fault(3, at);
                    }
                    t.sign(";");
                }
                sentence = read;
                return read.size();
            } catch (Fault f) {
                return faulty(f);
            }
        }

        public int work(int n) {
            String s = text(n, 150);
            if (undo.size() == 16) {
                return -20;
            }
            List<Step> steps;
            try {
                Tokens t = new Tokens(s);
                steps = readSteps(t, 0);
            } catch (Fault f) {
                return faulty(f);
            }
            undo.add(now.copy());
            begun = 0;
            doneSteps = 0;
            refusedSteps = 0;
            doSteps(steps);
            refused = refusedSteps;
            return doneSteps;
        }

        List<Step> readSteps(Tokens t, int open) {
            List<Step> steps = new ArrayList<>();
            while (open == 0 ? !t.ended() : !t.atSign("]")) {
                Token w = t.take('w');
                List<Integer> numbers = new ArrayList<>();
                List<Step> body = null;
                switch (w.text()) {
                    case "strike":
                        numbers.add(t.number(0, lines.size() - 1));
                        numbers.add(t.number(0, 7));
                        numbers.add(t.number(0, 7));
                        break;
                    case "run":
                    case "fill":
                        numbers.add(t.number(1, 99));
                        break;
                    case "begin":
                    case "wipe":
                        break;
                    case "set":
                        numbers.add(t.number(0, 3));
                        numbers.add(t.number(0, 999));
                        break;
                    case "again":
                        if (open == 6) {
                            throw new Fault(3, w.place());
                        }
                        numbers.add(t.number(0, 60));
                        t.sign("[");
                        body = readSteps(t, open + 1);
                        t.sign("]");
                        break;
                    default:
                        throw new Fault(1, w.place());
                }
                t.sign(";");
                steps.add(new Step(w.text(), numbers, body));
            }
            return steps;
        }

        void doSteps(List<Step> steps) {
            for (Step s : steps) {
                if (begun == 200) {
                    return;
                }
                begun++;
                if (s.word().equals("again")) {
                    for (int i = 0; i < s.numbers().get(0); i++) {
                        doSteps(s.body());
                    }
                } else if (doStep(now, s)) {
                    doneSteps++;
                } else {
                    refusedSteps++;
                }
            }
        }

        boolean doStep(State s, Step step) {
            List<Integer> n = step.numbers();
            switch (step.word()) {
                case "strike": return strike(s, n.get(0), n.get(1), n.get(2));
                case "run": return run(s, n.get(0));
                case "begin": return begin(s);
                case "fill":
                    if (s.ink == 200) {
                        return false;
                    }
                    s.ink = Math.min(200, s.ink + n.get(0));
                    return true;
                case "wipe":
                    if (left(s) == total()) {
                        return false;
                    }
                    for (boolean[] row : s.struck) {
                        Arrays.fill(row, false);
                    }
                    return true;
                default:
                    if (s.cells[n.get(0)] == n.get(1)) {
                        return false;
                    }
                    s.cells[n.get(0)] = n.get(1);
                    return true;
            }
        }

        boolean begin(State s) {
            if (lines.isEmpty() || s.at == 0) {
                return false;
            }
            s.at = 0;
            return true;
        }

        boolean strike(State s, int l, int i, int j) {
            if (i > j || j >= lines.get(l).length || costOf(s, l, i, j) > s.ink) {
                return false;
            }
            s.ink -= costOf(s, l, i, j);
            s.strokes++;
            for (int k = i; k <= j; k++) {
                s.struck[l][k] = !s.struck[l][k];
            }
            return true;
        }

        int costOf(State s, int l, int i, int j) {
            int struck = 0;
            for (int k = i; k <= j; k++) {
                struck += s.struck[l][k] ? 1 : 0;
            }
            return price(j - i + 1, struck, i, l, left(s), s.ink, s.cells[0]);
        }

        int price(int words, int struck, int first, int line, int left, int ink, int cell) {
            int c = law.worth(Map.of("words", words, "struck", struck, "first", first, "line", line, "left", left,
                "ink", ink, "cell", cell));
            return c < 0 ? 0 : c > 60 ? 60 : c;
        }

        boolean run(State s, int n) {
            if (s.at == lines.size()) {
                return false;
            }
            for (int i = 0; i < n; i++) {
                if (!deed(s)) {
                    break;
                }
            }
            return true;
        }

        boolean deed(State s) {
            int l = s.at;
            while (l < lines.size() && leftOf(s, l).isEmpty()) {
                l++;
            }
            if (l == lines.size()) {
                s.at = l;
                return false;
            }
            List<Integer> w = new ArrayList<>(leftOf(s, l));
            w.add(0);
            w.add(0);
            int a = w.get(0);
            int b = w.get(1);
            int c = w.get(2);
            s.deeds++;
            s.at = l + 1;
            if (a == 1) {
                s.cells[b % 4] = Math.min(999, s.cells[b % 4] + c);
            } else if (a == 2) {
                s.cells[b % 4] = Math.max(0, s.cells[b % 4] - c);
            } else if (a == 3) {
                s.cells[b % 4] = s.cells[c % 4];
            } else if (a == 4 && s.cells[b % 4] == 0) {
                s.at = c < lines.size() ? c : lines.size();
            } else if (a == 5) {
                s.at = b < lines.size() ? b : lines.size();
            } else if (a == 6 && b < lines.size() && c < lines.get(b).length) {
                s.struck[b][c] = !s.struck[b][c];
            } else if (a == 7) {
                s.at = lines.size();
            } else if (a >= 8) {
                s.cells[a % 4] = Math.min(999, s.cells[a % 4] + 1);
            }
            return true;
        }

        List<Integer> leftOf(State s, int l) {
            List<Integer> left = new ArrayList<>();
            for (int i = 0; i < lines.get(l).length; i++) {
                if (!s.struck[l][i]) {
                    left.add(lines.get(l)[i]);
                }
            }
            return left;
        }

        List<Integer> saidBy(State s) {
            List<Integer> said = new ArrayList<>();
            for (int l = 0; l < lines.size(); l++) {
                said.addAll(leftOf(s, l));
            }
            return said;
        }

        List<Integer> said() {
            return saidBy(now);
        }

        int left(State s) {
            return saidBy(s).size();
        }

        int total() {
            return lines.stream().mapToInt(x -> x.length).sum();
        }

        public int fault() {
            return place;
        }

        public int undo() {
            if (undo.isEmpty()) {
                return -1;
            }
            now = undo.remove(undo.size() - 1);
            refused = 0;
            return undo.size();
        }

        public int image() {
            if (images.size() == 3) {
                return -1;
            }
            images.add(new Image(now.copy(), copies(undo)));
            return images.size();
        }

        static List<State> copies(List<State> states) {
            List<State> copies = new ArrayList<>();
            for (State s : states) {
                copies.add(s.copy());
            }
            return copies;
        }

        public int restore() {
            if (images.isEmpty()) {
                return -1;
            }
            Image i = images.remove(images.size() - 1);
            now = i.state();
            undo = i.undo();
            refused = 0;
            return images.size();
        }

        public int told(int what) {
            needIn(what, 0, 10);
            int empty = 0;
            for (int l = 0; l < lines.size(); l++) {
                empty += leftOf(now, l).isEmpty() ? 1 << l : 0;
            }
            return new int[] {lines.size(), total(), left(now), now.ink, now.strokes, now.at, now.deeds,
                Arrays.stream(now.cells).sum(), sentence.size(), refused, empty}[what];
        }

        public int line(int line, int what) {
            needLine(line);
            needIn(what, 0, 4);
            List<Integer> left = leftOf(now, line);
            int struck = 0;
            for (int i = 0; i < now.struck[line].length; i++) {
                struck += now.struck[line][i] ? 1 << i : 0;
            }
            return new int[] {lines.get(line).length, left.size(), struck, left.isEmpty() ? -1 : left.get(0),
                left.stream().mapToInt(x -> x).sum()}[what];
        }

        public int word(int line, int word, int what) {
            needWord(line, word);
            needIn(what, 0, 1);
            return what == 0 ? lines.get(line)[word] : now.struck[line][word] ? 1 : 0;
        }

        public int reads(int k) {
            needIn(k, 0, Integer.MAX_VALUE);
            return k < said().size() ? said().get(k) : -1;
        }

        public int cell(int cell) {
            needIn(cell, 0, 3);
            return now.cells[cell];
        }

        public int cost(int line, int from, int to) {
            needWord(line, from);
            needWord(line, to);
            need(from <= to);
            return costOf(now, line, from, to);
        }

        public int would(int words, int struck, int first, int line, int left, int ink, int cell) {
            need(words >= 1 && words <= 8 && struck >= 0 && struck <= 8 && first >= 0 && first <= 7 && line >= 0
                && line <= 5 && left >= 0 && left <= 48 && ink >= 0 && ink <= 200 && cell >= 0 && cell <= 999);
            return price(words, struck, first, line, left, ink, cell);
        }

        public int ahead(int n, int what) {
            need(n >= 0 && n <= 999 && what >= 0 && what <= 2);
            State s = now.copy();
            for (int i = 0; i < n; i++) {
                deed(s);
            }
            return what == 0 ? s.at : what == 1 ? Arrays.stream(s.cells).sum() : left(s);
        }

        public int ends() {
            State s = now.copy();
            s.deeds = 0;
            for (int i = 0; i < 1000; i++) {
                deed(s);
            }
            return s.deeds == 1000 ? -1 : s.deeds;
        }

        public boolean says() {
            return said().equals(sentence);
        }

        /** By how many words of the sentence are said: how many ways, by each number of strokes. */
        Map<Integer, Map<Integer, Long>> found() {
            Map<Integer, Map<Integer, Long>> all = new HashMap<>();
            all.put(0, new HashMap<>(Map.of(0, 1L)));
            for (int l = 0; l < lines.size(); l++) {
                Map<Integer, Map<Integer, Long>> next = new HashMap<>();
                int[] words = lines.get(l);
                int[] far = strokesTo(words.length);
                int struckNow = 0;
                for (int i = 0; i < words.length; i++) {
                    struckNow |= now.struck[l][i] ? 1 << i : 0;
                }
                for (int struck = 0; struck < 1 << words.length; struck++) {
                    for (Map.Entry<Integer, Map<Integer, Long>> e : all.entrySet()) {
                        int m = e.getKey();
                        for (int i = 0; i < words.length && m >= 0; i++) {
                            if ((struck >> i & 1) == 0) {
                                m = m < sentence.size() && sentence.get(m) == words[i] ? m + 1 : -1;
                            }
                        }
                        if (m >= 0) {
                            for (Map.Entry<Integer, Long> w : e.getValue().entrySet()) {
                                next.computeIfAbsent(m, x -> new HashMap<>())
                                    .merge(w.getKey() + far[struck ^ struckNow], w.getValue(), Long::sum);
                            }
                        }
                    }
                }
                all = next;
            }
            return all;
        }

        static final Map<Integer, int[]> FAR = new HashMap<>();

        /** By search: the fewest strokes to each set of words of a line, from none. */
        static int[] strokesTo(int length) {
            return FAR.computeIfAbsent(length, n -> {
                int[] far = new int[1 << n];
                Arrays.fill(far, -1);
                far[0] = 0;
                ArrayDeque<Integer> queue = new ArrayDeque<>(List.of(0));
                while (!queue.isEmpty()) {
                    int s = queue.remove();
                    for (int i = 0; i < n; i++) {
                        int t = s;
                        for (int j = i; j < n; j++) {
                            t ^= 1 << j;
                            if (far[t] < 0) {
                                far[t] = far[s] + 1;
                                queue.add(t);
                            }
                        }
                    }
                }
                return far;
            });
        }

        public long ways() {
            return found().getOrDefault(sentence.size(), Map.of()).values().stream().mapToLong(x -> x).sum();
        }

        public int strokes() {
            return found().getOrDefault(sentence.size(), Map.of()).keySet().stream().mapToInt(x -> x).min().orElse(-1);
        }

        public long best() {
            return strokes() < 0 ? 0 : found().get(sentence.size()).get(strokes());
        }

        public long unlike(int n) {
            needIn(n, 0, 12);
            List<Integer> all = new ArrayList<>();
            for (int[] l : lines) {
                for (int w : l) {
                    all.add(w);
                }
            }
            return unlikeFrom(all, 0, n, new HashMap<>());
        }

        static long unlikeFrom(List<Integer> all, int from, int n, Map<Integer, Long> known) {
            if (n == 0) {
                return 1;
            }
            Long before = known.get(from * 100 + n);
            if (before != null) {
                return before;
            }
            long sum = 0;
            for (int w = 0; w < 16; w++) {
                int i = all.subList(from, all.size()).indexOf(w);
                if (i >= 0) {
                    sum += unlikeFrom(all, from + i + 1, n - 1, known);
                }
            }
            known.put(from * 100 + n, sum);
            return sum;
        }

        public int forged(int what) {
            needIn(what, 0, 1);
            List<Integer> found = new ArrayList<>();
            for (int l = 0; l < lines.size(); l++) {
                for (int i = 0; i < lines.get(l).length; i++) {
                    State s = now.copy();
                    for (int j = i; j < lines.get(l).length; j++) {
                        s.struck[l][j] = !s.struck[l][j];
                        if (saidBy(s).equals(sentence)) {
                            found.add(100 * l + 10 * i + j);
                        }
                    }
                }
            }
            return what == 0 ? found.size() : found.isEmpty() ? -1 : found.get(0);
        }

        static final Map<Integer, Integer> VALUES = new HashMap<>();

        static int valueOfBits(int left) {
            Integer known = VALUES.get(left);
            if (known != null) {
                return known;
            }
            List<Integer> reached = new ArrayList<>();
            for (int bits : movesOf(left)) {
                reached.add(valueOfBits(left ^ bits));
            }
            int least = 0;
            while (reached.contains(least)) {
                least++;
            }
            VALUES.put(left, least);
            return least;
        }

        static List<Integer> movesOf(int left) {
            List<Integer> moves = new ArrayList<>();
            for (int i = 0; i < 8; i++) {
                if ((left >> i & 1) == 1) {
                    moves.add(1 << i);
                    if ((left >> i + 1 & 1) == 1) {
                        moves.add(3 << i);
                    }
                }
            }
            return moves;
        }

        int bitsLeft(int l) {
            int bits = 0;
            for (int i = 0; i < lines.get(l).length; i++) {
                bits |= now.struck[l][i] ? 0 : 1 << i;
            }
            return bits;
        }

        public int value(int line) {
            needLine(line);
            return valueOfBits(bitsLeft(line));
        }

        void needBits(int bits) {
            need(bits >= 0 && bits >> lines.size() == 0);
        }

        public int argument(int bits, int what) {
            needBits(bits);
            needIn(what, 0, 1);
            int[] left = new int[lines.size()];
            for (int l = 0; l < left.length; l++) {
                left[l] = (bits >> l & 1) == 1 ? bitsLeft(l) : 0;
            }
            if (what == 0) {
                return together(left);
            }
            for (int l = 0; l < left.length; l++) {
                for (int move : movesOf(left[l])) {
                    int[] then = left.clone();
                    then[l] ^= move;
                    if (together(then) == 0) {
                        int i = Integer.numberOfTrailingZeros(move);
                        return 100 * l + 10 * i + i + Integer.bitCount(move) - 1;
                    }
                }
            }
            return -1;
        }

        static int together(int[] left) {
            int all = 0;
            for (int bits : left) {
                all ^= valueOfBits(bits);
            }
            return all;
        }

        public int common(int line, int other) {
            needLine(line);
            needLine(other);
            return inBoth(leftOf(now, line), leftOf(now, other));
        }

        static int inBoth(List<Integer> a, List<Integer> b) {
            if (a.isEmpty() || b.isEmpty()) {
                return 0;
            }
            List<Integer> c = a.subList(1, a.size());
            List<Integer> d = b.subList(1, b.size());
            return a.get(0).equals(b.get(0)) ? 1 + inBoth(c, d) : Math.max(inBoth(c, b), inBoth(a, d));
        }

        public int apart() {
            if (images.isEmpty()) {
                return -1;
            }
            int sum = 0;
            boolean[][] then = images.get(images.size() - 1).state().struck;
            for (int l = 0; l < then.length; l++) {
                for (int i = 0; i < then[l].length; i++) {
                    sum += then[l][i] != now.struck[l][i] ? 1 : 0;
                }
            }
            return sum;
        }

        public int mends() {
            if (images.isEmpty()) {
                return -1;
            }
            int sum = 0;
            boolean[][] then = images.get(images.size() - 1).state().struck;
            for (int l = 0; l < then.length; l++) {
                int bits = 0;
                for (int i = 0; i < then[l].length; i++) {
                    bits |= then[l][i] != now.struck[l][i] ? 1 << i : 0;
                }
                sum += strokesTo(then[l].length)[bits];
            }
            return sum;
        }

        public int duel(int v, int w, int what) {
            need(v >= 0 && v <= 99 && w >= 0 && w <= 99 && what >= 0 && what <= 2);
            // [one][other]: what the one has
            int[][] has = {{-w, v}, {0, w}};
            List<Integer> rests = new ArrayList<>();
            for (int a = 0; a < 2; a++) {
                for (int b = 0; b < 2; b++) {
                    if (has[1 - a][b] <= has[a][b] && has[1 - b][a] <= has[b][a]) {
                        rests.add(10 * a + b);
                    }
                }
            }
            if (what == 0) {
                return rests.size();
            }
            if (rests.isEmpty()) {
                return what == 1 ? -1 : 0;
            }
            int a = rests.get(0) / 10;
            int b = rests.get(0) % 10;
            return what == 1 ? rests.get(0) : has[a][b] + has[b][a];
        }

        public long chance(int n, int k, int q, int part) {
            need(n >= 0 && n <= 12 && k >= 0 && k <= 13 && q >= 0 && q <= 16 && part >= 0 && part <= 1);
            BigInteger[] left = new BigInteger[14];
            Arrays.fill(left, BigInteger.ZERO);
            left[0] = BigInteger.ONE;
            for (int i = 0; i < n; i++) {
                for (int m = 13; m >= 0; m--) {
                    left[m] = left[m].multiply(BigInteger.valueOf(q))
                        .add(m == 0 ? BigInteger.ZERO : left[m - 1].multiply(BigInteger.valueOf(16 - q)));
                }
            }
            BigInteger above = BigInteger.ZERO;
            for (int m = k; m < 14; m++) {
                above = above.add(left[m]);
            }
            BigInteger below = BigInteger.valueOf(16).pow(n);
            BigInteger gcd = above.gcd(below);
            return (part == 0 ? above : below).divide(gcd).longValueExact();
        }

        public int share(int line, int bits, int n) {
            needLine(line);
            needBits(bits);
            needIn(n, 0, 200);
            int bound = 0;
            while (bound < 8 && given(bits, bound + 1) <= n) {
                bound++;
            }
            return (bits >> line & 1) == 0 ? 0 : Math.min(bound, leftOf(now, line).size());
        }

        int given(int bits, int bound) {
            int sum = 0;
            for (int l = 0; l < lines.size(); l++) {
                sum += (bits >> l & 1) == 0 ? 0 : Math.min(bound, leftOf(now, l).size());
            }
            return sum;
        }

        public int often(int what) {
            needIn(what, 0, 1);
            int which = -1;
            int most = -1;
            for (int w = 15; w >= 0; w--) {
                int times = Collections.frequency(said(), w);
                if (times > 0 && times >= most) {
                    which = w;
                    most = times;
                }
            }
            return what == 0 ? which : most;
        }

        public int deeds(int word) {
            needIn(word, 0, 15);
            int bits = 0;
            for (int l = 0; l < lines.size(); l++) {
                if (leftOf(now, l).indexOf(word) == 0) {
                    bits += 1 << l;
                }
            }
            return bits;
        }

        public int longest(int what) {
            needIn(what, 0, 1);
            int which = -1;
            int most = -1;
            for (int l = lines.size() - 1; l >= 0; l--) {
                if (leftOf(now, l).size() >= most) {
                    which = l;
                    most = leftOf(now, l).size();
                }
            }
            return what == 0 ? which : most;
        }

        long seed;

        int drawn(int by) {
            seed = (seed * 1103515245L + 12345L) & 0xffffffffL;
            return (int) ((seed / 65536 % 32768) % by);
        }

        State played(int firstSeed, int times, int q) {
            State s = now.copy();
            seed = firstSeed & 0xffffffffL;
            for (int t = 0; t < times && !lines.isEmpty(); t++) {
                int l = drawn(lines.size());
                int i = drawn(lines.get(l).length);
                int j = drawn(lines.get(l).length);
                strike(s, l, Math.min(i, j), Math.max(i, j));
                if (drawn(16) < q) {
                    if (!run(s, 3)) {
                        begin(s);
                    }
                }
            }
            return s;
        }

        public int hand(int seed, int times, int q, int what) {
            need(times >= 1 && times <= 96 && q >= 0 && q <= 16 && what >= 0 && what <= 3);
            State s = played(seed, times, q);
            return new int[] {left(s), s.ink, s.strokes - now.strokes, Arrays.stream(s.cells).sum()}[what];
        }

        public int span(int seed, int many, int times, int q, int what, int line) {
            need(many >= 1 && many <= 20 && times >= 1 && times <= 96 && q >= 0 && q <= 16 && what >= 0 && what <= 2
                && line >= 0 && line < lines.size());
            List<Integer> left = new ArrayList<>();
            int without = 0;
            for (int i = 0; i < many; i++) {
                State s = played(seed + i, times, q);
                left.add(left(s));
                without += leftOf(s, line).isEmpty() ? 1 : 0;
            }
            return what == 0 ? Collections.min(left) : what == 1 ? Collections.max(left) : without;
        }

        public int status(int what) {
            return what == 0 ? noSuch : what == 1 ? illegal : -1;
        }

        public int count(int what) {
            return what == 0 ? images.size() : what == 1 ? tape.size() : what == 2 ? undo.size() : -1;
        }
    }
}
