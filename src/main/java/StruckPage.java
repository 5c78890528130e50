import java.util.NoSuchElementException;

/** A page of which only what is not struck out is said: see README.md. */
public final class StruckPage {
    public static final int NONE = -1;

    private static final int MOST_LINES = 6;
    private static final int MOST_WORDS = 8;
    private static final int CELLS = 4;
    private static final int LAST_WORD = 15;
    private static final int TAPE_BYTES = 600;
    private static final int LAW_BYTES = 150;
    private static final int WORK_BYTES = 150;
    private static final int SENTENCE_BYTES = 60;
    private static final int SENTENCE_WORDS = 12;
    private static final int MOST_OPEN = 6;
    private static final int MOST_INK = 200;
    private static final int MOST_IN_CELL = 999;
    private static final int MOST_WORKS = 16;
    private static final int MOST_IMAGES = 3;
    private static final int MOST_DEEDS_AHEAD = 999;

    private static final int WRONG_SIGN = 1;
    private static final int WRONG_NUMBER = 2;
    private static final int TOO_MANY = 3;
    private static final int FAULT_LESS = 10;
    private static final int WORKS_ARE_FULL = -20;

    private final Text text = new Text();
    private final Paper paper = new Paper();
    private final Paper nextPaper = new Paper();
    private final Law rule = new Law();
    private final Law nextRule = new Law();
    private final Saying saying = new Saying();
    private final Saying nextSaying = new Saying();
    private final Steps steps = new Steps();
    private final Desk now = new Desk(paper, rule);
    private final Desk trial = new Desk(paper, rule);
    private final Shelf shelf = new Shelf();
    private final Search search = new Search(paper);
    private int refusedSteps;
    private int noSuchCalls;
    private int illegalCalls;

    public StruckPage() {
    }

    // ---- texts ----

    public int feed(int a, int b, int c, int d, int e) {
        if (text.filled + 20 > TAPE_BYTES) {
            return NONE;
        }
        text.put(a);
        text.put(b);
        text.put(c);
        text.put(d);
        text.put(e);
        return text.filled;
    }

    public int page(int n) throws IllegalArgumentException {
        openText(n, TAPE_BYTES);
        if (!nextPaper.readFrom(text)) {
            return text.kind - FAULT_LESS;
        }
        paper.takeOver(nextPaper);
        rule.makePlain();
        saying.length = 0;
        shelf.clear();
        now.startAnew();
        refusedSteps = 0;
        return paper.total;
    }

    public int law(int n) throws IllegalArgumentException {
        openText(n, LAW_BYTES);
        if (!nextRule.readFrom(text)) {
            return text.kind - FAULT_LESS;
        }
        rule.takeOver(nextRule);
        return 1;
    }

    public int work(int n) throws IllegalArgumentException {
        openText(n, WORK_BYTES);
        if (shelf.works >= MOST_WORKS) {
            return WORKS_ARE_FULL;
        }
        if (!steps.readFrom(text, paper.lines)) {
            return text.kind - FAULT_LESS;
        }
        shelf.keepWork(now);
        steps.countAnew();
        steps.doSteps(now, 0, steps.length, 0);
        refusedSteps = steps.refused;
        return steps.done;
    }

    public int sentence(int n) throws IllegalArgumentException {
        openText(n, SENTENCE_BYTES);
        if (!nextSaying.readFrom(text)) {
            return text.kind - FAULT_LESS;
        }
        saying.takeOver(nextSaying);
        return saying.length;
    }

    public int fault() {
        return text.place;
    }

    private void openText(int n, int most) {
        must(n >= 0 && n <= most && n <= text.filled);
        text.open(n);
    }

    // ---- what WORK changed, taken back ----

    public int undo() {
        if (!shelf.takeWorkBack(now)) {
            return -1;
        }
        refusedSteps = 0;
        return shelf.works;
    }

    public int image() {
        return shelf.keepImage(now) ? shelf.images : -1;
    }

    public int restore() {
        if (!shelf.takeImageBack(now)) {
            return -1;
        }
        refusedSteps = 0;
        return shelf.images;
    }

    public int apart() {
        if (shelf.images == 0) {
            return NONE;
        }
        int sum = 0;
        for (int l = 0; l < paper.lines; l++) {
            sum += Integer.bitCount(now.struck[l] ^ shelf.struckInImage(l));
        }
        return sum;
    }

    public int mends() {
        if (shelf.images == 0) {
            return NONE;
        }
        int sum = 0;
        for (int l = 0; l < paper.lines; l++) {
            int unlikeBits = now.struck[l] ^ shelf.struckInImage(l);
            // a run of words side by side has two ends, and a stroke makes two at most: each run takes one stroke
            sum += Integer.bitCount(unlikeBits & ~(unlikeBits << 1));
        }
        return sum;
    }

    // ---- what stands there now ----

    public int told(int what) throws IllegalArgumentException {
        must(what >= 0 && what <= 10);
        switch (what) {
            case 0: return paper.lines;
            case 1: return paper.total;
            case 2: return now.leftInAll();
            case 3: return now.ink;
            case 4: return now.strokesMade;
            case 5: return now.at;
            case 6: return now.deedsDone;
            case 7: return now.inAllCells();
            case 8: return saying.length;
            case 9: return refusedSteps;
            default: return emptyLines();
        }
    }

    private int emptyLines() {
        int bits = 0;
        for (int l = 0; l < paper.lines; l++) {
            if (now.leftIn(l) == 0) {
                bits |= 1 << l;
            }
        }
        return bits;
    }

    public int line(int line, int what) throws NoSuchElementException, IllegalArgumentException {
        mustBeLine(line);
        must(what >= 0 && what <= 4);
        switch (what) {
            case 0: return paper.lengths[line];
            case 1: return now.leftIn(line);
            case 2: return now.struck[line];
            case 3: return now.firstLeft(line);
            default: return now.sumOfLeft(line);
        }
    }

    public int word(int line, int word, int what) throws NoSuchElementException, IllegalArgumentException {
        mustBeWord(line, word);
        must(what == 0 || what == 1);
        if (what == 0) {
            return paper.wordAt(line, word);
        }
        return now.isLeft(line, word) ? 0 : 1;
    }

    public int reads(int k) throws IllegalArgumentException {
        must(k >= 0);
        int seen = 0;
        for (int l = 0; l < paper.lines; l++) {
            for (int i = 0; i < paper.lengths[l]; i++) {
                if (now.isLeft(l, i)) {
                    if (seen == k) {
                        return paper.wordAt(l, i);
                    }
                    seen++;
                }
            }
        }
        return NONE;
    }

    public int cell(int cell) throws IllegalArgumentException {
        must(cell >= 0 && cell < CELLS);
        return now.cells[cell];
    }

    public int often(int what) throws IllegalArgumentException {
        must(what == 0 || what == 1);
        int most = 0;
        int which = NONE;
        for (int w = 0; w <= LAST_WORD; w++) {
            int times = now.timesSaid(w);
            if (times > most) {
                most = times;
                which = w;
            }
        }
        if (which == NONE) {
            return NONE;
        }
        return what == 0 ? which : most;
    }

    public int deeds(int word) throws IllegalArgumentException {
        must(word >= 0 && word <= LAST_WORD);
        int bits = 0;
        for (int l = 0; l < paper.lines; l++) {
            if (now.firstLeft(l) == word) {
                bits |= 1 << l;
            }
        }
        return bits;
    }

    public int longest(int what) throws IllegalArgumentException {
        must(what == 0 || what == 1);
        int most = NONE;
        int which = NONE;
        for (int l = 0; l < paper.lines; l++) {
            if (now.leftIn(l) > most) {
                most = now.leftIn(l);
                which = l;
            }
        }
        return what == 0 ? which : most;
    }

    // ---- what a stroke costs ----

    public int cost(int line, int from, int to) throws NoSuchElementException, IllegalArgumentException {
        mustBeWord(line, from);
        mustBeWord(line, to);
        must(from <= to);
        return now.priceOf(line, from, to);
    }

    public int would(int words, int struck, int first, int line, int left, int ink, int cell)
            throws IllegalArgumentException {
        must(words >= 1 && words <= MOST_WORDS && struck >= 0 && struck <= MOST_WORDS);
        must(first >= 0 && first < MOST_WORDS && line >= 0 && line < MOST_LINES);
        must(left >= 0 && left <= MOST_LINES * MOST_WORDS);
        must(ink >= 0 && ink <= MOST_INK && cell >= 0 && cell <= MOST_IN_CELL);
        return rule.priceFor(words, struck, first, line, left, ink, cell);
    }

    // ---- deeds ahead ----

    public int ahead(int n, int what) throws IllegalArgumentException {
        must(n >= 0 && n <= MOST_DEEDS_AHEAD && what >= 0 && what <= 2);
        trial.takeOver(now);
        trial.runOn(n);
        switch (what) {
            case 0: return trial.at;
            case 1: return trial.inAllCells();
            default: return trial.leftInAll();
        }
    }

    public int ends() {
        trial.takeOver(now);
        for (int done = 0; done <= MOST_DEEDS_AHEAD; done++) {
            // the deed behind the last one asked for is tried, too: only it tells whether there are more
            if (!trial.doDeed()) {
                return done;
            }
        }
        return NONE;
    }

    // ---- the sentence ----

    public boolean says() {
        return now.speaks(saying);
    }

    public long ways() {
        return search.waysTo(saying);
    }

    public int strokes() {
        search.seekFewest(now, saying);
        return search.foundFewest(saying.length);
    }

    public long best() {
        search.seekFewest(now, saying);
        return search.foundMany(saying.length);
    }

    public long unlike(int n) throws IllegalArgumentException {
        must(n >= 0 && n <= SENTENCE_WORDS);
        return search.unlikeRows(n);
    }

    public int forged(int what) throws IllegalArgumentException {
        must(what == 0 || what == 1);
        trial.takeOver(now);
        int many = 0;
        int first = NONE;
        for (int l = 0; l < paper.lines; l++) {
            for (int i = 0; i < paper.lengths[l]; i++) {
                for (int j = i; j < paper.lengths[l]; j++) {
                    if (trial.speaksBehind(saying, l, bitsOf(i, j))) {
                        first = many == 0 ? named(l, i, j) : first;
                        many++;
                    }
                }
            }
        }
        return what == 0 ? many : first;
    }

    // ---- lines against lines ----

    public int value(int line) throws NoSuchElementException {
        mustBeLine(line);
        return Search.valueOf(now.leftBits(line));
    }

    public int argument(int lines, int what) throws IllegalArgumentException {
        mustBeBits(lines);
        must(what == 0 || what == 1);
        int all = 0;
        for (int l = 0; l < paper.lines; l++) {
            if ((lines >> l & 1) == 1) {
                all ^= Search.valueOf(now.leftBits(l));
            }
        }
        return what == 0 ? all : firstWinning(lines, all);
    }

    private int firstWinning(int lines, int all) {
        for (int l = 0; l < paper.lines; l++) {
            int left = (lines >> l & 1) == 1 ? now.leftBits(l) : 0;
            int others = all ^ Search.valueOf(left);
            for (int i = 0; i < paper.lengths[l]; i++) {
                for (int j = i; j <= i + 1; j++) {
                    int bits = bitsOf(i, j);
                    if ((left & bits) == bits && Search.valueOf(left & ~bits) == others) {
                        return named(l, i, j);
                    }
                }
            }
        }
        return NONE;
    }

    public int common(int line, int other) throws NoSuchElementException {
        mustBeLine(line);
        mustBeLine(other);
        return search.longestInBoth(now, line, other);
    }

    public int share(int line, int lines, int n) throws NoSuchElementException, IllegalArgumentException {
        mustBeLine(line);
        mustBeBits(lines);
        must(n >= 0 && n <= MOST_INK);
        if ((lines >> line & 1) == 0) {
            return 0;
        }
        int bound = MOST_WORDS;
        while (bound > 0 && givenBy(lines, bound) > n) {
            bound--;
        }
        return Math.min(now.leftIn(line), bound);
    }

    private int givenBy(int lines, int bound) {
        int sum = 0;
        for (int l = 0; l < paper.lines; l++) {
            if ((lines >> l & 1) == 1) {
                sum += Math.min(now.leftIn(l), bound);
            }
        }
        return sum;
    }

    // ---- duels and chances, of which the page knows nothing ----

    public int duel(int v, int w, int what) throws IllegalArgumentException {
        must(v >= 0 && v <= 99 && w >= 0 && w <= 99 && what >= 0 && what <= 2);
        int many = 0;
        int first = NONE;
        int together = 0;
        for (int one = 0; one <= 1; one++) {
            for (int other = 0; other <= 1; other++) {
                if (restsThere(v, w, one, other)) {
                    if (many == 0) {
                        first = 10 * one + other;
                        together = hadBy(v, w, one, other) + hadBy(v, w, other, one);
                    }
                    many++;
                }
            }
        }
        return what == 0 ? many : what == 1 ? first : together;
    }

    private static boolean restsThere(int v, int w, int one, int other) {
        return hadBy(v, w, one, other) >= hadBy(v, w, 1 - one, other)
            && hadBy(v, w, other, one) >= hadBy(v, w, 1 - other, one);
    }

    private static int hadBy(int v, int w, int mine, int theirs) {
        if (mine == 0) {
            return theirs == 0 ? -w : v;
        }
        return theirs == 0 ? 0 : w;
    }

    public long chance(int n, int k, int q, int part) throws IllegalArgumentException {
        must(n >= 0 && n <= 12 && k >= 0 && k <= 13 && q >= 0 && q <= 16);
        must(part == 0 || part == 1);
        long above = 0;
        long choices = 1;
        for (int left = 0; left <= n; left++) {
            if (left >= k) {
                above += choices * power(16 - q, left) * power(q, n - left);
            }
            choices = choices * (n - left) / (left + 1);
        }
        long below = power(16, n);
        // what is below is a power of two, so halving is all that there is to shorten
        while (below > 1 && above % 2 == 0) {
            above /= 2;
            below /= 2;
        }
        return part == 0 ? above : below;
    }

    private static long power(int base, int times) {
        long product = 1;
        for (int i = 0; i < times; i++) {
            product *= base;
        }
        return product;
    }

    // ---- hands by seeds ----

    public int hand(int seed, int times, int q, int what) throws IllegalArgumentException {
        mustBeHand(times, q);
        must(what >= 0 && what <= 3);
        trial.takeOver(now);
        trial.playHand(seed, times, q);
        switch (what) {
            case 0: return trial.leftInAll();
            case 1: return trial.ink;
            case 2: return trial.strokesMade - now.strokesMade;
            default: return trial.inAllCells();
        }
    }

    public int span(int seed, int many, int times, int q, int what, int line) throws IllegalArgumentException {
        mustBeHand(times, q);
        must(many >= 1 && many <= 20 && what >= 0 && what <= 2 && paper.hasLine(line));
        int fewest = paper.total;
        int most = 0;
        int without = 0;
        for (int i = 0; i < many; i++) {
            trial.takeOver(now);
            trial.playHand(seed + i, times, q);
            fewest = Math.min(fewest, trial.leftInAll());
            most = Math.max(most, trial.leftInAll());
            without += trial.leftIn(line) == 0 ? 1 : 0;
        }
        return what == 0 ? fewest : what == 1 ? most : without;
    }

    private void mustBeHand(int times, int q) {
        must(times >= 1 && times <= 96 && q >= 0 && q <= 16);
    }

    // ---- counts, and refusals ----

    public int status(int what) {
        return what == 0 ? noSuchCalls : what == 1 ? illegalCalls : NONE;
    }

    public int count(int what) {
        switch (what) {
            case 0: return shelf.images;
            case 1: return text.filled;
            case 2: return shelf.works;
            default: return NONE;
        }
    }

    private void must(boolean fine) {
        if (!fine) {
            illegalCalls++;
            throw new IllegalArgumentException("out of what the document allows");
        }
    }

    private void mustBeBits(int lines) {
        must(lines >= 0 && lines < 1 << paper.lines);
    }

    private void mustBeLine(int line) {
        if (!paper.hasLine(line)) {
            noSuchCalls++;
            throw new NoSuchElementException("no such line");
        }
    }

    private void mustBeWord(int line, int word) {
        if (!paper.hasWord(line, word)) {
            noSuchCalls++;
            throw new NoSuchElementException("no such word");
        }
    }

    /** The words from one to another one of a line, as bits. */
    private static int bitsOf(int from, int to) {
        return (1 << to - from + 1) - 1 << from;
    }

    private static int named(int line, int from, int to) {
        return 100 * line + 10 * from + to;
    }

    /** The TAPE, and the text that is read from it, up to its first FAULT. */
    private static final class Text {
        private static final int END = -1;
        // above every number that a text may hold, and far from wrapping
        private static final int TOO_LARGE = 100000;

        private final int[] bytes = new int[TAPE_BYTES];
        private int filled;
        private int length;
        private int at;
        private int start;
        private int read;
        private int kind;
        private int place = NONE;

        private void put(int number) {
            for (int shift = 24; shift >= 0 && filled < TAPE_BYTES; shift -= 8) {
                bytes[filled] = number >>> shift & 255;
                filled++;
            }
        }

        private void open(int n) {
            length = Math.min(n, TAPE_BYTES);
            filled = 0;
            at = 0;
            kind = 0;
            place = NONE;
        }

        private boolean fail(int faultKind, int faultPlace) {
            kind = faultKind;
            place = faultPlace;
            return false;
        }

        /** The next byte that is no blank, which is not yet taken. */
        private int peek() {
            while (at < length && bytes[at] == ' ') {
                at++;
            }
            return at < length ? bytes[at] : END;
        }

        private boolean isAtDigit() {
            int b = peek();
            return b >= '0' && b <= '9';
        }

        private boolean isAtLetter() {
            int b = peek();
            return b >= 'a' && b <= 'z';
        }

        private boolean takeSign(char sign) {
            if (peek() != sign) {
                return fail(WRONG_SIGN, at);
            }
            at++;
            return true;
        }

        private boolean takeNumber(int low, int high) {
            int first = peek();
            if (first < '0' || first > '9') {
                return fail(WRONG_SIGN, at);
            }
            start = at;
            read = 0;
            while (at < length && bytes[at] >= '0' && bytes[at] <= '9') {
                read = Math.min(TOO_LARGE, read * 10 + bytes[at] - '0');
                at++;
            }
            return read >= low && read <= high || fail(WRONG_NUMBER, start);
        }

        private boolean takeLetters() {
            if (!isAtLetter()) {
                return fail(WRONG_SIGN, at);
            }
            start = at;
            while (at < length && bytes[at] >= 'a' && bytes[at] <= 'z') {
                at++;
            }
            return true;
        }

        /** Whether the letters just taken are these. */
        private boolean took(String letters) {
            if (at - start != letters.length()) {
                return false;
            }
            for (int i = 0; i < letters.length() && start + i < length; i++) {
                if (bytes[start + i] != letters.charAt(i)) {
                    return false;
                }
            }
            return true;
        }
    }

    /** The PAGE as it was told, before any WORK. */
    private static final class Paper {
        private static final int MOST_CLAUSES = 60;
        private static final int FIRST_INK = 60;

        private final int[] lengths = new int[MOST_LINES];
        private final int[] words = new int[MOST_LINES * MOST_WORDS];
        private final int[] firstCells = new int[CELLS];
        private int lines;
        private int total;
        private int firstInk = FIRST_INK;

        private boolean hasLine(int l) {
            return l >= 0 && l < lines;
        }

        private boolean hasWord(int l, int i) {
            return l >= 0 && l < lines && i >= 0 && i < lengths[l];
        }

        private int wordAt(int l, int i) {
            return l >= 0 && l < lines && i >= 0 && i < lengths[l] ? words[l * MOST_WORDS + i] : 0;
        }

        private void takeOver(Paper other) {
            System.arraycopy(other.lengths, 0, lengths, 0, MOST_LINES);
            System.arraycopy(other.words, 0, words, 0, MOST_LINES * MOST_WORDS);
            System.arraycopy(other.firstCells, 0, firstCells, 0, CELLS);
            lines = other.lines;
            total = other.total;
            firstInk = other.firstInk;
        }

        private boolean readFrom(Text text) {
            lines = 0;
            total = 0;
            firstInk = FIRST_INK;
            for (int c = 0; c < CELLS; c++) {
                firstCells[c] = 0;
            }
            // one round more than there may be clauses: the clause too many is a fault of its own
            for (int clauses = 0; clauses <= MOST_CLAUSES; clauses++) {
                if (text.peek() == Text.END) {
                    return true;
                }
                if (!readClause(text, clauses)) {
                    return false;
                }
            }
            return false;
        }

        private boolean readClause(Text text, int clausesBefore) {
            if (!text.takeLetters()) {
                return false;
            }
            boolean isLine = text.took("line");
            boolean isCell = text.took("cell");
            if (!isLine && !isCell && !text.took("ink")) {
                return text.fail(WRONG_SIGN, text.start);
            }
            if (clausesBefore >= MOST_CLAUSES || isLine && lines >= MOST_LINES) {
                return text.fail(TOO_MANY, text.start);
            }
            boolean fine = isLine ? readLine(text) : isCell ? readCell(text) : readInk(text);
            return fine && text.takeSign(';');
        }

        private boolean readLine(Text text) {
            int length = 0;
            do {
                if (!text.takeNumber(0, LAST_WORD)) {
                    return false;
                }
                if (length >= MOST_WORDS) {
                    return text.fail(TOO_MANY, text.start);
                }
                words[lines * MOST_WORDS + length] = text.read;
                length++;
            } while (length <= MOST_WORDS && text.isAtDigit());
            lengths[lines] = length;
            lines++;
            total += length;
            return true;
        }

        private boolean readCell(Text text) {
            if (!text.takeNumber(0, CELLS - 1)) {
                return false;
            }
            int which = text.read;
            if (!text.takeNumber(0, 99)) {
                return false;
            }
            firstCells[which] = text.read;
            return true;
        }

        private boolean readInk(Text text) {
            if (!text.takeNumber(0, MOST_INK)) {
                return false;
            }
            firstInk = text.read;
            return true;
        }
    }

    /** The LAW, kept as a row in which each doing stands behind what it is done with. */
    private static final class Law {
        // numbers stand for themselves, so names and doings are below 0
        private static final int WORDS = -1;
        private static final int STRUCK = -2;
        private static final int FIRST = -3;
        private static final int LINE = -4;
        private static final int LEFT = -5;
        private static final int INK = -6;
        private static final int CELL = -7;
        private static final int PLUS = -8;
        private static final int MINUS = -9;
        private static final int TIMES = -10;
        private static final int PARTED = -11;
        private static final int REST = -12;
        private static final int LEAST = -13;
        private static final int MOST = -14;
        private static final int MOST_NUMBER = 999;
        private static final int MOST_COST = 60;
        private static final int[] PLAIN = {1, WORDS, 2, PARTED, PLUS};

        // three values wait at most at each level that is open: of a sum, of a product, of a pair
        private static final int MOST_WAITING = 3 * (MOST_OPEN + 1) + 1;

        private final int[] row = new int[LAW_BYTES];
        private final int[] stack = new int[MOST_WAITING];
        private final int[] asked = new int[7];
        private int length;

        private Law() {
            makePlain();
        }

        private void makePlain() {
            System.arraycopy(PLAIN, 0, row, 0, PLAIN.length);
            length = PLAIN.length;
        }

        private void takeOver(Law other) {
            System.arraycopy(other.row, 0, row, 0, LAW_BYTES);
            length = other.length;
        }

        private int priceFor(int words, int struck, int first, int line, int left, int ink, int cell) {
            asked[0] = words;
            asked[1] = struck;
            asked[2] = first;
            asked[3] = line;
            asked[4] = left;
            asked[5] = ink;
            asked[6] = cell;
            int top = 0;
            for (int i = 0; i < length; i++) {
                int next = row[i];
                if (next < CELL && top >= 2) {
                    top--;
                    stack[top - 1] = joined(next, stack[top - 1], stack[top]);
                } else if (next >= CELL && top < MOST_WAITING) {
                    stack[top] = next >= 0 ? next : asked[WORDS - next];
                    top++;
                }
            }
            return Math.max(0, Math.min(MOST_COST, stack[0]));
        }

        private static int joined(int doing, int a, int b) {
            switch (doing) {
                case PLUS: return a + b;
                case MINUS: return a - b;
                case TIMES: return a * b;
                case PARTED: return b == 0 ? 0 : a / b;
                case REST: return b == 0 ? 0 : a % b;
                case LEAST: return Math.min(a, b);
                default: return Math.max(a, b);
            }
        }

        private boolean readFrom(Text text) {
            length = 0;
            if (!readSum(text, 0)) {
                return false;
            }
            return text.peek() == Text.END || text.fail(WRONG_SIGN, text.at);
        }

        private boolean append(int part) {
            // each part has a byte of the text of its own, so there is always room
            if (length < LAW_BYTES) {
                row[length] = part;
                length++;
            }
            return true;
        }

        private boolean readSum(Text text, int open) {
            if (!readProduct(text, open)) {
                return false;
            }
            for (int parts = 0; parts < LAW_BYTES; parts++) {
                int sign = text.peek();
                if (sign != '+' && sign != '-') {
                    return true;
                }
                text.at++;
                if (!readProduct(text, open)) {
                    return false;
                }
                append(sign == '+' ? PLUS : MINUS);
            }
            return true;
        }

        private boolean readProduct(Text text, int open) {
            if (!readUnit(text, open)) {
                return false;
            }
            for (int parts = 0; parts < LAW_BYTES; parts++) {
                int sign = text.peek();
                if (sign != '*' && sign != '/' && sign != '%') {
                    return true;
                }
                text.at++;
                if (!readUnit(text, open)) {
                    return false;
                }
                append(sign == '*' ? TIMES : sign == '/' ? PARTED : REST);
            }
            return true;
        }

        private boolean readUnit(Text text, int open) {
            if (text.isAtDigit()) {
                return text.takeNumber(0, MOST_NUMBER) && append(text.read);
            }
            if (text.peek() == '(') {
                if (open >= MOST_OPEN) {
                    return text.fail(TOO_MANY, text.at);
                }
                return text.takeSign('(') && readSum(text, open + 1) && text.takeSign(')');
            }
            if (!text.takeLetters()) {
                return false;
            }
            if (text.took("least") || text.took("most")) {
                return readPair(text, open, text.took("least") ? LEAST : MOST);
            }
            int name = nameTaken(text);
            return name == 0 ? text.fail(WRONG_SIGN, text.start) : append(name);
        }

        private boolean readPair(Text text, int open, int doing) {
            if (open >= MOST_OPEN) {
                return text.fail(TOO_MANY, text.start);
            }
            return text.takeSign('[') && readSum(text, open + 1)
                && text.takeSign(',') && readSum(text, open + 1)
                && text.takeSign(']') && append(doing);
        }

        /** The name just taken, or 0, which is none. */
        private static int nameTaken(Text text) {
            return text.took("words") ? WORDS
                : text.took("struck") ? STRUCK
                : text.took("first") ? FIRST
                : text.took("line") ? LINE
                : text.took("left") ? LEFT
                : text.took("ink") ? INK
                : text.took("cell") ? CELL : 0;
        }
    }

    /** The SENTENCE. */
    private static final class Saying {
        private final int[] words = new int[SENTENCE_WORDS];
        private int length;

        private void takeOver(Saying other) {
            System.arraycopy(other.words, 0, words, 0, SENTENCE_WORDS);
            length = other.length;
        }

        private boolean readFrom(Text text) {
            length = 0;
            for (int i = 0; i <= SENTENCE_WORDS; i++) {
                if (text.peek() == Text.END) {
                    return true;
                }
                if (!text.takeNumber(0, LAST_WORD)) {
                    return false;
                }
                if (i >= SENTENCE_WORDS) {
                    return text.fail(TOO_MANY, text.start);
                }
                words[i] = text.read;
                length = i + 1;
                if (!text.takeSign(';')) {
                    return false;
                }
            }
            return false;
        }
    }

    /** A WORK: all of it is read before any of it is done. */
    private static final class Steps {
        private static final int STRIKE = 0;
        private static final int RUN = 1;
        private static final int BEGIN = 2;
        private static final int FILL = 3;
        private static final int WIPE = 4;
        private static final int SET = 5;
        private static final int AGAIN = 6;
        private static final int MOST_BEGUN = 200;
        // the shortest step, "wipe;" or "run1;", has five bytes
        private static final int MOST_STEPS = WORK_BYTES / 5;

        private final int[] kinds = new int[MOST_STEPS];
        private final int[] firsts = new int[MOST_STEPS];
        private final int[] seconds = new int[MOST_STEPS];
        private final int[] thirds = new int[MOST_STEPS];
        // the step that comes behind this one, and behind all of it if it is a loop
        private final int[] closes = new int[MOST_STEPS];
        private int length;
        private int pageLines;
        private int begun;
        private int done;
        private int refused;

        private boolean readFrom(Text text, int lines) {
            length = 0;
            pageLines = lines;
            return readSteps(text, 0) && (text.peek() == Text.END || text.fail(WRONG_SIGN, text.at));
        }

        /** Reads steps up to the end, or up to the sign that closes the loop they stand in. */
        private boolean readSteps(Text text, int open) {
            for (int many = 0; many <= MOST_STEPS; many++) {
                int next = text.peek();
                if (next == Text.END || open > 0 && next == ']') {
                    return true;
                }
                if (!readStep(text, open) || !text.takeSign(';')) {
                    return false;
                }
            }
            return true;
        }

        private boolean readStep(Text text, int open) {
            if (!text.takeLetters()) {
                return false;
            }
            int kind = kindTaken(text);
            if (kind == NONE || length >= MOST_STEPS) {
                return text.fail(WRONG_SIGN, text.start);
            }
            if (kind == AGAIN && open >= MOST_OPEN) {
                return text.fail(TOO_MANY, text.start);
            }
            int step = length;
            kinds[step] = kind;
            closes[step] = step + 1;
            length++;
            switch (kind) {
                case STRIKE: return readStrike(text, step);
                case RUN: return readFirst(text, step, 1, 99);
                case FILL: return readFirst(text, step, 1, 99);
                case SET: return readFirst(text, step, 0, CELLS - 1) && readSecond(text, step, MOST_IN_CELL);
                case AGAIN: return readAgain(text, step, open);
                default: return true;
            }
        }

        private static int kindTaken(Text text) {
            return text.took("strike") ? STRIKE
                : text.took("run") ? RUN
                : text.took("begin") ? BEGIN
                : text.took("fill") ? FILL
                : text.took("wipe") ? WIPE
                : text.took("set") ? SET
                : text.took("again") ? AGAIN : NONE;
        }

        private boolean readFirst(Text text, int step, int low, int high) {
            if (!text.takeNumber(low, high)) {
                return false;
            }
            firsts[step] = text.read;
            return true;
        }

        private boolean readSecond(Text text, int step, int high) {
            if (!text.takeNumber(0, high)) {
                return false;
            }
            seconds[step] = text.read;
            return true;
        }

        private boolean readStrike(Text text, int step) {
            if (!readFirst(text, step, 0, pageLines - 1) || !readSecond(text, step, MOST_WORDS - 1)
                    || !text.takeNumber(0, MOST_WORDS - 1)) {
                return false;
            }
            thirds[step] = text.read;
            return true;
        }

        private boolean readAgain(Text text, int step, int open) {
            if (!readFirst(text, step, 0, 60) || !text.takeSign('[') || !readSteps(text, open + 1)) {
                return false;
            }
            closes[step] = length;
            return text.takeSign(']');
        }

        private void countAnew() {
            begun = 0;
            done = 0;
            refused = 0;
        }

        private void doSteps(Desk desk, int from, int to, int open) {
            if (open > MOST_OPEN) {
                return;
            }
            int step = from;
            while (step < to && begun < MOST_BEGUN) {
                begun++;
                if (kinds[step] != AGAIN) {
                    countStep(doStep(desk, step));
                } else {
                    for (int i = 0; i < firsts[step] && begun < MOST_BEGUN; i++) {
                        doSteps(desk, step + 1, closes[step], open + 1);
                    }
                }
                step = Math.max(step + 1, closes[step]);
            }
        }

        private void countStep(boolean wasDone) {
            if (wasDone) {
                done++;
            } else {
                refused++;
            }
        }

        private boolean doStep(Desk desk, int step) {
            int first = firsts[step];
            switch (kinds[step]) {
                case STRIKE: return desk.strike(first, seconds[step], thirds[step]);
                case RUN: return desk.runOn(first);
                case BEGIN: return desk.beginAgain();
                case FILL: return desk.fillUp(first);
                case WIPE: return desk.wipeAll();
                default: return desk.setCell(first, seconds[step]);
            }
        }
    }

    /** All that WORK changes, and the doing of it; asked ahead, it is done on a trial desk. */
    private static final class Desk {
        private static final int PARTS = MOST_LINES + CELLS + 4;

        private final Paper paper;
        private final Law rule;
        private final int[] struck = new int[MOST_LINES];
        private final int[] cells = new int[CELLS];
        private int at;
        private int ink = Paper.FIRST_INK;
        private int strokesMade;
        private int deedsDone;
        private int seed;

        private Desk(Paper paper, Law rule) {
            this.paper = paper;
            this.rule = rule;
        }

        private void startAnew() {
            for (int l = 0; l < MOST_LINES; l++) {
                struck[l] = 0;
            }
            System.arraycopy(paper.firstCells, 0, cells, 0, CELLS);
            at = 0;
            ink = paper.firstInk;
            strokesMade = 0;
            deedsDone = 0;
        }

        private void takeOver(Desk other) {
            System.arraycopy(other.struck, 0, struck, 0, MOST_LINES);
            System.arraycopy(other.cells, 0, cells, 0, CELLS);
            at = other.at;
            ink = other.ink;
            strokesMade = other.strokesMade;
            deedsDone = other.deedsDone;
        }

        private void writeTo(int[] rows, int place) {
            System.arraycopy(struck, 0, rows, place, MOST_LINES);
            System.arraycopy(cells, 0, rows, place + MOST_LINES, CELLS);
            int rest = place + MOST_LINES + CELLS;
            rows[rest] = at;
            rows[rest + 1] = ink;
            rows[rest + 2] = strokesMade;
            rows[rest + 3] = deedsDone;
        }

        private void readBack(int[] rows, int place) {
            System.arraycopy(rows, place, struck, 0, MOST_LINES);
            System.arraycopy(rows, place + MOST_LINES, cells, 0, CELLS);
            int rest = place + MOST_LINES + CELLS;
            at = rows[rest];
            ink = rows[rest + 1];
            strokesMade = rows[rest + 2];
            deedsDone = rows[rest + 3];
        }

        private boolean isLeft(int l, int i) {
            return paper.hasWord(l, i) && (struck[l] >> i & 1) == 0;
        }

        private int leftIn(int l) {
            return paper.hasLine(l) ? paper.lengths[l] - Integer.bitCount(struck[l]) : 0;
        }

        private int leftInAll() {
            int left = paper.total;
            for (int l = 0; l < paper.lines; l++) {
                left -= Integer.bitCount(struck[l]);
            }
            return left;
        }

        private int leftBits(int l) {
            return paper.hasLine(l) ? (1 << paper.lengths[l]) - 1 & ~struck[l] : 0;
        }

        private int firstLeft(int l) {
            int left = leftBits(l);
            return left == 0 ? NONE : lowestWord(l, left);
        }

        /** The first of some words of a line, which are told as bits; 0, if there is none. */
        private int lowestWord(int l, int bits) {
            return bits == 0 ? 0 : paper.wordAt(l, Integer.bitCount((bits & -bits) - 1));
        }

        private int sumOfLeft(int l) {
            int left = leftBits(l);
            int sum = 0;
            for (int i = 0; i < MOST_WORDS; i++) {
                if ((left >> i & 1) == 1) {
                    sum += paper.wordAt(l, i);
                }
            }
            return sum;
        }

        private int timesSaid(int which) {
            int times = 0;
            for (int l = 0; l < paper.lines; l++) {
                int left = leftBits(l);
                for (int i = 0; i < paper.lengths[l]; i++) {
                    if ((left >> i & 1) == 1 && paper.wordAt(l, i) == which) {
                        times++;
                    }
                }
            }
            return times;
        }

        private int inAllCells() {
            int sum = 0;
            for (int c = 0; c < CELLS; c++) {
                sum += cells[c];
            }
            return sum;
        }

        private boolean speaks(Saying saying) {
            // most sets of words are told apart by how many they are, which is quickly counted
            if (leftInAll() != saying.length) {
                return false;
            }
            int matched = 0;
            for (int l = 0; l < paper.lines; l++) {
                int left = leftBits(l);
                for (int i = 0; i < paper.lengths[l] && matched < saying.length; i++) {
                    if ((left >> i & 1) == 1) {
                        if (saying.words[matched] != paper.wordAt(l, i)) {
                            return false;
                        }
                        matched++;
                    }
                }
            }
            return true;
        }

        private boolean speaksBehind(Saying saying, int l, int bits) {
            struck[l] ^= bits;
            boolean spoken = speaks(saying);
            struck[l] ^= bits;
            return spoken;
        }

        private int priceOf(int l, int from, int to) {
            int struckOfThese = Integer.bitCount(struck[l] & bitsOf(from, to));
            return rule.priceFor(to - from + 1, struckOfThese, from, l, leftInAll(), ink, cells[0]);
        }

        private boolean strike(int l, int from, int to) {
            if (from < 0 || from > to || !paper.hasWord(l, to)) {
                return false;
            }
            int price = priceOf(l, from, to);
            if (price > ink) {
                return false;
            }
            struck[l] ^= bitsOf(from, to);
            ink -= price;
            strokesMade++;
            return true;
        }

        private boolean runOn(int most) {
            if (at >= paper.lines) {
                return false;
            }
            for (int i = 0; i < most && at < paper.lines; i++) {
                doDeed();
            }
            return true;
        }

        private boolean beginAgain() {
            if (at == 0 || paper.lines == 0) {
                return false;
            }
            at = 0;
            return true;
        }

        private boolean fillUp(int more) {
            if (ink >= MOST_INK) {
                return false;
            }
            ink = Math.min(MOST_INK, ink + more);
            return true;
        }

        private boolean wipeAll() {
            boolean any = false;
            for (int l = 0; l < MOST_LINES; l++) {
                any |= struck[l] != 0;
                struck[l] = 0;
            }
            return any;
        }

        private boolean setCell(int which, int n) {
            if (which < 0 || which >= CELLS || cells[which] == n) {
                return false;
            }
            cells[which] = n;
            return true;
        }

        /** Whether a deed was done; if not, the run is over. */
        private boolean doDeed() {
            while (at < paper.lines && leftBits(at) == 0) {
                at++;
            }
            if (at >= paper.lines) {
                return false;
            }
            int l = at;
            at++;
            deedsDone++;
            int first = leftBits(l);
            int second = first & first - 1;
            int third = second & second - 1;
            doWords(lowestWord(l, first), lowestWord(l, second), lowestWord(l, third));
            return true;
        }

        private void doWords(int a, int b, int c) {
            switch (a) {
                case 0:
                    return;
                case 1:
                    addTo(b, c);
                    return;
                case 2:
                    cells[b % CELLS] = Math.max(0, cells[b % CELLS] - c);
                    return;
                case 3:
                    cells[b % CELLS] = cells[c % CELLS];
                    return;
                case 4:
                    if (cells[b % CELLS] == 0) {
                        goTo(c);
                    }
                    return;
                case 5:
                    goTo(b);
                    return;
                case 6:
                    if (paper.hasWord(b, c)) {
                        struck[b] ^= 1 << c;
                    }
                    return;
                case 7:
                    at = paper.lines;
                    return;
                default:
                    addTo(a, 1);
            }
        }

        private void addTo(int which, int more) {
            int c = which % CELLS;
            cells[c] = Math.min(MOST_IN_CELL, cells[c] + more);
        }

        private void goTo(int l) {
            at = Math.min(l, paper.lines);
        }

        private void playHand(int firstSeed, int times, int q) {
            seed = firstSeed;
            for (int i = 0; i < times && paper.lines > 0; i++) {
                int l = drawnBy(paper.lines);
                int one = drawnBy(paper.lengths[l]);
                int other = drawnBy(paper.lengths[l]);
                strike(l, Math.min(one, other), Math.max(one, other));
                if (drawnBy(16) < q && !runOn(3)) {
                    beginAgain();
                }
            }
        }

        private int drawnBy(int many) {
            seed = seed * 1103515245 + 12345;
            return many > 0 ? (seed >>> 16 & 32767) % many : 0;
        }
    }

    /** What is kept to be taken back: desks ahead of WORKS, and IMAGES with such desks of their own. */
    private static final class Shelf {
        private static final int WORKS_SIZE = MOST_WORKS * Desk.PARTS;
        private static final int IMAGE_SIZE = Desk.PARTS + WORKS_SIZE;

        private final int[] rows = new int[WORKS_SIZE + MOST_IMAGES * IMAGE_SIZE];
        private final int[] worksThen = new int[MOST_IMAGES];
        private int works;
        private int images;

        private void clear() {
            works = 0;
            images = 0;
        }

        private static int placeOf(int which) {
            return WORKS_SIZE + which * IMAGE_SIZE;
        }

        private void keepWork(Desk desk) {
            if (works < MOST_WORKS) {
                desk.writeTo(rows, works * Desk.PARTS);
                works++;
            }
        }

        private boolean takeWorkBack(Desk desk) {
            if (works == 0) {
                return false;
            }
            works--;
            desk.readBack(rows, works * Desk.PARTS);
            return true;
        }

        private boolean keepImage(Desk desk) {
            if (images >= MOST_IMAGES) {
                return false;
            }
            int place = placeOf(images);
            desk.writeTo(rows, place);
            System.arraycopy(rows, 0, rows, place + Desk.PARTS, WORKS_SIZE);
            worksThen[images] = works;
            images++;
            return true;
        }

        private boolean takeImageBack(Desk desk) {
            if (images == 0) {
                return false;
            }
            images--;
            int place = placeOf(images);
            desk.readBack(rows, place);
            System.arraycopy(rows, place + Desk.PARTS, rows, 0, WORKS_SIZE);
            works = worksThen[images];
            return true;
        }

        /** The struck words of a line in the latest image, as bits. */
        private int struckInImage(int l) {
            return images > 0 ? rows[placeOf(images - 1) + l] : 0;
        }
    }

    /** Counting over all sets of words that could be left, with rows that are used again. */
    private static final class Search {
        // no search comes near so many strokes: a line has room for four of them
        private static final int FAR = 1000;
        private static final int STATES = SENTENCE_WORDS + 1;
        // of runs of 0 to 8 words that are left side by side
        private static final int[] RUN_VALUES = {0, 1, 2, 3, 1, 4, 3, 2, 1};

        private final Paper paper;
        private final long[] ways = new long[STATES];
        private final long[] waysWhenLastSeen = new long[(LAST_WORD + 1) * STATES];
        // by how many words of the sentence are matched, twice: behind a word no stroke goes over, and behind one
        private final int[] fewest = new int[2 * STATES];
        private final long[] many = new long[2 * STATES];
        private final int[] inBoth = new int[MOST_WORDS + 1];

        private Search(Paper paper) {
            this.paper = paper;
        }

        private long waysTo(Saying saying) {
            startWays();
            for (int l = 0; l < paper.lines; l++) {
                for (int i = 0; i < paper.lengths[l]; i++) {
                    for (int m = saying.length; m > 0; m--) {
                        if (saying.words[m - 1] == paper.wordAt(l, i)) {
                            ways[m] += ways[m - 1];
                        }
                    }
                }
            }
            return ways[saying.length];
        }

        private void startWays() {
            for (int m = 0; m < STATES; m++) {
                ways[m] = 0;
            }
            ways[0] = 1;
        }

        private long unlikeRows(int n) {
            startWays();
            for (int i = 0; i < waysWhenLastSeen.length; i++) {
                waysWhenLastSeen[i] = 0;
            }
            for (int l = 0; l < paper.lines; l++) {
                for (int i = 0; i < paper.lengths[l]; i++) {
                    addRowsWith(paper.wordAt(l, i));
                }
            }
            return n >= 0 && n < STATES ? ways[n] : 0;
        }

        /** Rows that could end with this word at an earlier place are not counted again. */
        private void addRowsWith(int which) {
            int seen = which * STATES;
            for (int m = STATES - 1; m > 0; m--) {
                long before = ways[m - 1];
                ways[m] += before - waysWhenLastSeen[seen + m - 1];
                waysWhenLastSeen[seen + m - 1] = before;
            }
        }

        private void seekFewest(Desk desk, Saying saying) {
            for (int s = 0; s < 2 * STATES; s++) {
                fewest[s] = FAR;
                many[s] = 0;
            }
            fewest[0] = 0;
            many[0] = 1;
            for (int l = 0; l < paper.lines; l++) {
                for (int i = 0; i < paper.lengths[l]; i++) {
                    passWord(saying, paper.wordAt(l, i), desk.isLeft(l, i));
                }
                endStrokes(saying.length);
            }
        }

        /** Whether a word stays or goes tells whether a stroke goes over it: one that begins here costs one more. */
        private void passWord(Saying saying, int which, boolean isLeft) {
            int overIfStruck = isLeft ? 1 : 0;
            for (int m = saying.length; m >= 0; m--) {
                int free = 2 * m;
                int freeFewest = fewest[free];
                long freeMany = many[free];
                int overFewest = fewest[free + 1];
                long overMany = many[free + 1];
                fewest[free] = FAR;
                many[free] = 0;
                fewest[free + 1] = FAR;
                many[free + 1] = 0;
                join(free + overIfStruck, freeFewest + overIfStruck, freeMany);
                join(free + overIfStruck, overFewest, overMany);
                if (m > 0 && saying.words[m - 1] == which) {
                    int overIfLeft = 1 - overIfStruck;
                    join(free + overIfLeft, fewest[free - 2] + overIfLeft, many[free - 2]);
                    join(free + overIfLeft, fewest[free - 1], many[free - 1]);
                }
            }
        }

        private void join(int state, int strokesNeeded, long sets) {
            if (strokesNeeded < fewest[state]) {
                fewest[state] = strokesNeeded;
                many[state] = sets;
            } else if (strokesNeeded == fewest[state] && strokesNeeded < FAR) {
                many[state] += sets;
            }
        }

        /** No stroke goes from one line to the next. */
        private void endStrokes(int length) {
            for (int m = 0; m <= length; m++) {
                join(2 * m, fewest[2 * m + 1], many[2 * m + 1]);
                fewest[2 * m + 1] = FAR;
                many[2 * m + 1] = 0;
            }
        }

        private int foundFewest(int length) {
            return fewest[2 * length] < FAR ? fewest[2 * length] : NONE;
        }

        private long foundMany(int length) {
            return fewest[2 * length] < FAR ? many[2 * length] : 0;
        }

        private int longestInBoth(Desk desk, int one, int other) {
            for (int j = 0; j <= MOST_WORDS; j++) {
                inBoth[j] = 0;
            }
            for (int i = 0; i < MOST_WORDS; i++) {
                if (desk.isLeft(one, i)) {
                    passInBoth(desk, paper.wordAt(one, i), other);
                }
            }
            return inBoth[MOST_WORDS];
        }

        private void passInBoth(Desk desk, int which, int other) {
            int before = 0;
            for (int j = 0; j < MOST_WORDS; j++) {
                int without = inBoth[j + 1];
                int with = desk.isLeft(other, j) && paper.wordAt(other, j) == which ? before + 1 : 0;
                inBoth[j + 1] = Math.max(with, Math.max(without, inBoth[j]));
                before = without;
            }
        }

        /** Of the words of a line that are left, as bits: struck ones part it into games of their own. */
        private static int valueOf(int left) {
            int together = 0;
            int run = 0;
            for (int i = 0; i <= MOST_WORDS; i++) {
                if ((left >> i & 1) == 1 && run < MOST_WORDS) {
                    run++;
                } else {
                    together ^= RUN_VALUES[run];
                    run = 0;
                }
            }
            return together;
        }
    }
}
