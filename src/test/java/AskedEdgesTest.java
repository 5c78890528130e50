import java.math.BigInteger;
import java.util.List;
import java.util.function.IntToLongFunction;
import java.util.function.LongSupplier;

/** The sentences of the document that name a boundary of what is asked: what is told, sought, counted and refused. */
public final class AskedEdgesTest extends Bench {
    public static void main(String[] args) throws Exception {
        nothingStaysChanged();
        told();
        refusedByTheLatestWork();
        anotherWhat();
        noSuchOnes();
        linesAndWords();
        prices();
        ahead();
        ends();
        waysToSay();
        fewestStrokes();
        unlikeRows();
        forgers();
        valuesOfLines();
        winningStrokes();
        commonRows();
        duels();
        chances();
        shares();
        oftenDeedsLongest();
        draws();
        hands();
        spans();
        counted();
        end(args);
    }

    /** None of these is allowed: the ones next to the allowed ones, and the ones farthest off. */
    private static void onlyFromTo(int low, int high, IntToLongFunction call) {
        refused(ILLEGAL, () -> call.applyAsLong(low - 1));
        refused(ILLEGAL, () -> call.applyAsLong(high + 1));
        refused(ILLEGAL, () -> call.applyAsLong(LOWEST));
        refused(ILLEGAL, () -> call.applyAsLong(HIGHEST));
        call.applyAsLong(low);
        call.applyAsLong(high);
    }

    // ---- what is told ----

    private static void somePage() {
        fresh("line 8 1 2;line 6 2 0;line 9 3;line 5 0;cell 1 7;ink 50;");
        law("1+cell");
        sentence("8;9;");
        work("strike 0 1 1;run 2;set 2 5;strike 0 3 3;");
        x.image();
        work("strike 2 1 1;wipe;strike 0 1 2;strike 0 7 0;");
        put("1");
    }

    private static void nothingStaysChanged() {
        says("Asked, nothing stays changed; strokes of STROKES, FORGED, ARGUMENT, mends() cost nothing.");
        List<LongSupplier> questions = List.of(() -> x.fault(), () -> x.told(2), () -> x.line(0, 3),
            () -> x.word(0, 0, 1), () -> x.reads(3), () -> x.cell(1), () -> x.cost(0, 0, 1),
            () -> x.would(8, 8, 7, 5, 48, 200, 999),
            () -> x.ahead(999, 0), () -> x.ahead(7, 1), () -> x.ahead(2, 2), () -> x.ends(), () -> x.says() ? 1 : 0,
            () -> x.ways(), () -> x.strokes(), () -> x.best(), () -> x.unlike(3), () -> x.forged(0), () -> x.forged(1),
            () -> x.value(0), () -> x.argument(15, 0), () -> x.argument(15, 1), () -> x.common(0, 1), () -> x.apart(),
            () -> x.mends(), () -> x.duel(3, 4, 2), () -> x.chance(5, 2, 3, 0), () -> x.share(0, 15, 5),
            () -> x.often(0), () -> x.deeds(8), () -> x.longest(1), () -> x.hand(5, 96, 8, 0),
            () -> x.span(5, 20, 96, 8, 2, 1),
            () -> x.status(0), () -> x.count(0));
        for (LongSupplier question : questions) {
            somePage();
            asked(question, question.getAsLong());
        }
        // no ink is left, and each stroke would cost 60
        fresh("line 1 2 3;line 4;ink 1;");
        work("strike 0 1 1;");
        x.image();
        law("0");
        work("strike 0 0 0;strike 0 2 2;");
        law("60");
        due(x.told(3), 0);
        sentence("1;3;4;");
        due(x.strokes(), 2);
        due(x.mends(), 2);
        sentence("1;2;3;4;");
        due(x.forged(0), 1);
        due(x.argument(2, 1), 100);
    }

    private static void told() {
        says("0 LINES, 1 WORDS of the PAGE, 2 WORDS that are left, 3 ink, 4 strokes by now,");
        fresh(times(6, "line 1 2 3 4 5 6 7 8;") + "ink 200;");
        int[] full = {6, 48, 48, 200, 0};
        for (int what = 0; what < full.length; what++) {
            due(x.told(what), full[what]);
        }
        law("20");
        work("again 60[strike 5 0 7;strike 0 7 7;];");
        // ten strokes for all of the ink: each of both was struck and given back, and struck again
        int[] spent = {6, 48, 39, 0, 10};
        for (int what = 0; what < spent.length; what++) {
            due(x.told(what), spent[what]);
        }
        law("0");
        work("again 60[strike 5 0 7;strike 0 7 7;strike 0 0 0;];");
        due(x.told(4), 10 + 180);
        fresh("ink 0;");
        for (int what = 0; what < 5; what++) {
            due(x.told(what), 0);
        }

        says("6 DEEDS by now,");
        fresh("line 8;line 5 0;");
        due(x.told(6), 0);
        work("again 60[run 99;run 99;run 99;];again 18[run 99;];");
        due(x.told(6), 198 * 99);
        work("again 60[run 99;run 99;run 99;];again 18[run 99;];");
        due(x.told(6), 2 * 198 * 99);
        cells(999, 0, 0, 0);
        work("begin;wipe;set 0 0;");
        due(x.told(6), 2 * 198 * 99);

        says("5 the LINE at which the run is, whatever is left of it (as many as there are LINES: it is OVER)");
        fresh("line 8;line 9;line 10;");
        due(x.told(5), 0);
        work("strike 0 0 0;");
        due(x.told(5), 0);
        work("run 1;strike 2 0 0;");
        due(x.told(5), 2);
        work("run 1;");
        due(x.told(5), 3);
        work("begin;");
        due(x.told(5), 0);
        fresh("");
        due(x.told(5), 0);

        says("7 what is in all CELLS together");
        fresh("cell 0 99;cell 1 99;cell 2 99;cell 3 99;");
        due(x.told(7), 396);
        work("set 0 999;set 1 999;set 2 999;set 3 999;");
        due(x.told(7), 3996);
        work("set 0 0;set 1 0;set 2 0;set 3 0;");
        due(x.told(7), 0);

        says("8 WORDS of the SENTENCE");
        due(x.told(8), 0);
        sentence(times(12, "3;"));
        due(x.told(8), 12);
        page("line 1;");
        due(x.told(8), 0);

        says("10 LINES of which no WORD is left (bits).");
        fresh(times(6, "line 1 2;"));
        due(x.told(10), 0);
        work("strike 0 0 1;strike 5 0 1;strike 3 0 0;");
        due(x.told(10), 33);
        work("wipe;strike 0 0 1;strike 1 0 1;strike 2 0 1;strike 3 0 1;strike 4 0 1;strike 5 0 1;");
        due(x.told(10), 63);
        due(x.told(2), 0);
        fresh("");
        due(x.told(10), 0);
    }

    private static void refusedByTheLatestWork() {
        says("9 STEPS REFUSED by the latest WORK (0 ahead of any, behind page() without a FAULT, undo(), restore(); a"
            + " FAULT, -20, -1 leave it)");
        bare();
        due(x.told(9), 0);
        page("line 1;");
        due(x.told(9), 0);
        work("wipe;wipe;set 0 1;");
        due(x.told(9), 2);
        work("");
        due(x.told(9), 0);
        work("wipe;wipe;wipe;");
        due(page("x"), -9);
        due(work("wipe;x"), -9);
        due(work("wipe;run 0;"), -8);
        due(law("x"), -9);
        due(sentence("x"), -9);
        due(x.restore(), -1);
        due(law("5"), 1);
        due(sentence("5;"), 1);
        refused(ILLEGAL, () -> x.work(1));
        due(x.told(9), 3);
        due(x.image(), 1);
        due(x.image(), 2);
        due(x.image(), 3);
        due(x.image(), -1);
        due(x.told(9), 3);
        due(x.restore(), 2);
        due(x.told(9), 0);
        work("wipe;");
        due(x.told(9), 1);
        // three were refused by the work ahead of the one undone, but that does not come back
        due(x.undo(), 3);
        due(x.told(9), 0);
        work("wipe;");
        due(page("line 2;"), 1);
        due(x.told(9), 0);
        for (int i = 1; i <= 16; i++) {
            work("wipe;wipe;");
        }
        due(work("wipe;"), -20);
        due(x.told(9), 2);
    }

    private static void anotherWhat() {
        says("IllegalArgumentException: another what (so below).");
        fresh("line 8 1;line 9;");
        onlyFromTo(0, 10, what -> x.told(what));
        onlyFromTo(0, 4, what -> x.line(1, what));
        onlyFromTo(0, 1, what -> x.word(0, 1, what));
        onlyFromTo(0, 2, what -> x.ahead(3, what));
        onlyFromTo(0, 1, what -> x.forged(what));
        onlyFromTo(0, 1, what -> x.argument(3, what));
        fresh("line 8 1;line 9;");
        onlyFromTo(0, 2, what -> x.duel(3, 3, what));
        onlyFromTo(0, 1, what -> x.chance(3, 3, 3, what));
        onlyFromTo(0, 1, what -> x.often(what));
        onlyFromTo(0, 1, what -> x.longest(what));
        onlyFromTo(0, 3, what -> x.hand(3, 3, 3, what));
        onlyFromTo(0, 2, what -> x.span(3, 3, 3, 3, what, 1));
        due(x.status(1), 24);
        due(x.status(0), 0);
    }

    private static void noSuchOnes() {
        says("NoSuchElementException: no such LINE, WORD (so below, ahead of others).");
        fresh("line 8 1;line 9;");
        for (int none : new int[] {-1, 2, LOWEST, HIGHEST}) {
            refused(NO_SUCH, () -> x.line(none, 0));
            refused(NO_SUCH, () -> x.word(none, 0, 0));
            refused(NO_SUCH, () -> x.cost(none, 0, 0));
            refused(NO_SUCH, () -> x.value(none));
            refused(NO_SUCH, () -> x.common(none, 0));
            refused(NO_SUCH, () -> x.common(1, none));
            refused(NO_SUCH, () -> x.share(none, 3, 5));
        }
        fresh("line 8 1;line 9;");
        for (int none : new int[] {-1, 1, LOWEST, HIGHEST}) {
            refused(NO_SUCH, () -> x.word(1, none, 0));
            refused(NO_SUCH, () -> x.cost(1, none, 0));
            refused(NO_SUCH, () -> x.cost(1, 0, none));
        }
        // ahead of others
        refused(NO_SUCH, () -> x.line(2, 9));
        refused(NO_SUCH, () -> x.word(2, 9, 9));
        refused(NO_SUCH, () -> x.word(0, 2, 9));
        refused(NO_SUCH, () -> x.cost(0, 2, 1));
        refused(NO_SUCH, () -> x.cost(0, 1, -1));
        refused(NO_SUCH, () -> x.share(2, 99, 999));
        refused(NO_SUCH, () -> x.common(2, 2));
        fresh("");
        refused(NO_SUCH, () -> x.line(0, 0));
        refused(NO_SUCH, () -> x.word(0, 0, 0));
        refused(NO_SUCH, () -> x.cost(0, 0, 0));
        refused(NO_SUCH, () -> x.value(0));
        refused(NO_SUCH, () -> x.common(0, 0));
        refused(NO_SUCH, () -> x.share(0, 0, 0));
    }

    private static void linesAndWords() {
        says("Of a LINE: 0 how many WORDS, 1 how many are left, 2 those that are struck (bits), 3 the first that is"
            + " left (its WORD; NONE), 4 all that are left together.");
        fresh("line 15 15 15 15 15 15 15 15;line 0;line 1 2 3;");
        int[] full = {8, 8, 0, 15, 120};
        int[] nought = {1, 1, 0, 0, 0};
        for (int what = 0; what < 5; what++) {
            due(x.line(0, what), full[what]);
            due(x.line(1, what), nought[what]);
        }
        work("strike 0 0 7;strike 1 0 0;strike 2 0 0;strike 2 2 2;");
        int[] struck = {8, 0, 255, NONE, 0};
        int[] noughtStruck = {1, 0, 1, NONE, 0};
        int[] parted = {3, 1, 5, 2, 2};
        for (int what = 0; what < 5; what++) {
            due(x.line(0, what), struck[what]);
            due(x.line(1, what), noughtStruck[what]);
            due(x.line(2, what), parted[what]);
        }

        says("A WORD of a LINE: 0 which, 1 1 it is struck, 0 not.");
        due(x.word(2, 0, 0), 1);
        due(x.word(2, 0, 1), 1);
        due(x.word(2, 1, 0), 2);
        due(x.word(2, 1, 1), 0);
        due(x.word(2, 2, 0), 3);
        due(x.word(0, 7, 0), 15);
        due(x.word(0, 7, 1), 1);

        says("The k-th WORD (from 0 on) the PAGE SAYS; NONE: it says no so many. IllegalArgumentException: k below 0.");
        due(x.reads(0), 2);
        due(x.reads(1), NONE);
        work("strike 1 0 0;strike 2 0 0;strike 0 7 7;");
        int[] said = {15, 0, 1, 2, NONE};
        for (int k = 0; k < said.length; k++) {
            due(x.reads(k), said[k]);
        }
        due(x.reads(HIGHEST), NONE);
        refused(ILLEGAL, () -> x.reads(-1));
        refused(ILLEGAL, () -> x.reads(LOWEST));
        fresh(times(6, "line 1 2 3 4 5 6 7 8;"));
        due(x.reads(47), 8);
        due(x.reads(48), NONE);
        fresh("");
        due(x.reads(0), NONE);

        says("What is in a CELL (0 to 3).");
        fresh("cell 0 3;cell 3 99;");
        due(x.cell(0), 3);
        due(x.cell(3), 99);
        onlyFromTo(0, 3, cell -> x.cell(cell));
    }

    // ---- prices, and deeds ahead ----

    private static void prices() {
        says("COST of a stroke over WORDS from one to another one of a LINE now. IllegalArgumentException: the second"
            + " is ahead of the first.");
        fresh("line 1 2 3;");
        law("words*10+first");
        due(x.cost(0, 2, 2), 12);
        due(x.cost(0, 1, 2), 21);
        due(x.cost(0, 0, 2), 30);
        refused(ILLEGAL, () -> x.cost(0, 2, 1));
        refused(ILLEGAL, () -> x.cost(0, 1, 0));
        refused(ILLEGAL, () -> x.cost(0, 2, 0));

        says("COST by the LAW for such words (1 to 8), struck (0 to 8), first (0 to 7), line (0 to 5), left (0 to 48),"
            + " ink (0 to 200), cell (0 to 999).");
        bare();
        due(x.would(8, 8, 7, 5, 48, 200, 999), 5);
        onlyFromTo(1, 8, words -> x.would(words, 0, 0, 0, 0, 0, 0));
        onlyFromTo(0, 8, struck -> x.would(1, struck, 0, 0, 0, 0, 0));
        onlyFromTo(0, 7, first -> x.would(1, 0, first, 0, 0, 0, 0));
        onlyFromTo(0, 5, line -> x.would(1, 0, 0, line, 0, 0, 0));
        onlyFromTo(0, 48, left -> x.would(1, 0, 0, 0, left, 0, 0));
        onlyFromTo(0, 200, ink -> x.would(1, 0, 0, 0, 0, ink, 0));
        onlyFromTo(0, 999, cell -> x.would(1, 0, 0, 0, 0, 0, cell));
        law("cell-ink*4-left*3");
        due(x.would(1, 0, 0, 0, 48, 200, 999), 55);
        law("words*struck-first-line");
        due(x.would(8, 8, 7, 5, 0, 0, 0), 52);
        // more of them struck than there are, no page at all: it is asked of the law alone
        due(x.would(1, 8, 7, 0, 0, 0, 0), 1);
    }

    private static void ahead() {
        says("Behind n more DEEDS (0 to 999; fewer, if it is OVER ahead of that): 0 the LINE at which the run is, 1"
            + " what is in all CELLS together, 2 WORDS that are left.");
        fresh("line 8;line 5 0;");
        onlyFromTo(0, 999, n -> x.ahead(n, 0));
        due(x.ahead(0, 0), 0);
        due(x.ahead(0, 1), 0);
        due(x.ahead(1, 0), 1);
        due(x.ahead(998, 0), 0);
        due(x.ahead(998, 1), 499);
        due(x.ahead(999, 0), 1);
        due(x.ahead(999, 1), 500);
        due(x.ahead(999, 2), 3);
        fresh("line 8;line 6 3 0;line 9;line 8;");
        due(x.ahead(1, 2), 6);
        due(x.ahead(2, 2), 5);
        due(x.ahead(3, 0), 3);
        // line 3 is struck by then: behind three deeds the run is there, and a fourth there is none
        due(x.ahead(4, 0), 4);
        due(x.ahead(999, 0), 4);
        due(x.ahead(999, 1), 2);
        work("run 9;");
        due(x.ahead(0, 0), 4);
        due(x.ahead(999, 0), 4);
        due(x.ahead(999, 1), 2);
        // behind no deeds it is where it is, whatever is left
        fresh("line 8;line 9;");
        work("strike 0 0 0;strike 1 0 0;");
        due(x.ahead(0, 0), 0);
        due(x.ahead(1, 0), 2);
        fresh("cell 0 3;");
        due(x.ahead(0, 0), 0);
        due(x.ahead(999, 0), 0);
        due(x.ahead(999, 1), 3);
        due(x.ahead(999, 2), 0);
    }

    private static void ends() {
        says("How many DEEDS (0 to 999) are done until it is OVER (0, too, if from where the run is on no WORD is"
            + " left); NONE: more.");
        // one less in cell 0, off if there is nothing, and back: three deeds a round, the last round with the 7
        String rounds = "line 2 0 1;line 4 0 3;line 5 0;line 7;";
        fresh(rounds);
        work("set 0 333;");
        due(x.ends(), 999);
        work("set 0 332;");
        due(x.ends(), 996);
        work("set 0 334;");
        due(x.ends(), NONE);
        work("set 0 333;run 1;");
        due(x.ends(), 998);
        fresh("line 0;line 2 0 1;line 4 0 4;line 5 1;line 7;");
        work("set 0 333;");
        due(x.ends(), NONE);
        work("run 1;");
        due(x.ends(), 999);
        // over behind the last line, without a 7; and a line behind, of which nothing is left
        fresh("line 2 0 1;line 4 0 3;line 5 0;line 0;line 0;");
        work("set 0 333;strike 4 0 0;");
        due(x.ends(), 999);
        work("wipe;");
        due(x.ends(), NONE);
        fresh("line 8;line 9;line 10;");
        due(x.ends(), 3);
        work("run 2;");
        due(x.ends(), 1);
        work("strike 2 0 0;");
        due(x.ends(), 0);
        due(x.told(5), 2);
        work("run 1;");
        due(x.ends(), 0);
        due(x.told(5), 3);
        fresh("line 5;");
        due(x.ends(), NONE);
        fresh("");
        due(x.ends(), 0);
    }

    // ---- the sentence ----

    private static void waysToSay() {
        says("Whether the PAGE SAYS the SENTENCE.");
        bare();
        due(x.says(), true);
        page("line 1;");
        due(x.says(), false);
        sentence("1;");
        due(x.says(), true);
        work("strike 0 0 0;");
        due(x.says(), false);
        due(sentence("x"), -9);
        due(x.says(), false);
        x.undo();
        due(x.says(), true);

        says("The PAGE SAYS all its WORDS that are left, one behind the other, LINE by LINE.");
        fresh("line 1 2;line 2;");
        sentence("1;2;2;");
        due(x.says(), true);
        sentence("1;2;");
        due(x.says(), false);
        sentence("2;2;1;");
        due(x.says(), false);
        sentence("1;2;2;2;");
        due(x.says(), false);
        sentence("1;2;3;");
        due(x.says(), false);
        work("strike 0 0 1;strike 1 0 0;");
        due(x.says(), false);
        sentence("");
        due(x.says(), true);
        due(x.reads(0), NONE);
        work("wipe;");
        due(x.says(), false);
        fresh("line 0;");
        due(x.says(), false);
        sentence("0;");
        due(x.says(), true);
        fresh("");
        due(x.says(), true);
        fresh("line 1 1 1 1 1 1 1 1;line 1 1 1 1;");
        sentence(times(12, "1;"));
        due(x.says(), true);

        says("WAYS: how many sets of WORDS there are (the empty one is a set, too) by which, were just these left"
            + " (struck now or not), the PAGE would say the SENTENCE.");
        fresh("");
        due(x.ways(), 1);
        sentence("1;");
        due(x.ways(), 0);
        fresh("line 1 2 1;line 2 1;");
        due(x.ways(), 1);
        sentence("1;");
        due(x.ways(), 3);
        sentence("1;2;1;");
        due(x.ways(), 4);
        work("strike 0 0 2;strike 1 0 1;");
        due(x.ways(), 4);
        sentence("");
        due(x.ways(), 1);
        sentence("1;2;1;2;1;");
        due(x.ways(), 1);
        sentence("1;2;1;2;1;1;");
        due(x.ways(), 0);
        sentence("0;");
        due(x.ways(), 0);
        fresh(times(6, "line 7 7 7 7 7 7 7 7;"));
        sentence(times(12, "7;"));
        due(x.ways(), 69668534468L);
        sentence("7;");
        due(x.ways(), 48);
    }

    private static void fewestStrokes() {
        says("STROKES: the fewest strokes by which, from now on, it would come to say it (each stroke goes over WORDS"
            + " side by side of one LINE, strikes and gives back); NONE.");
        fresh("line 1 2 3 4 5 6 7 8;line 9;");
        sentence("1;2;3;4;5;6;7;8;9;");
        due(x.strokes(), 0);
        sentence("1;3;5;7;9;");
        due(x.strokes(), 4);
        sentence("");
        due(x.strokes(), 2);
        sentence("2;1;");
        due(x.strokes(), NONE);
        sentence("0;");
        due(x.strokes(), NONE);
        // strikes and gives back at one time
        work("strike 0 0 3;");
        sentence("1;2;3;4;9;");
        due(x.strokes(), 1);
        sentence("5;6;7;8;9;");
        due(x.strokes(), 0);
        // no stroke goes from line to line
        fresh("line 1 2;line 3 4;");
        sentence("1;4;");
        due(x.strokes(), 2);
        fresh("");
        due(x.strokes(), 0);
        sentence("1;");
        due(x.strokes(), NONE);
        // behind each word that is left a stroke is needed
        fresh(times(6, "line 1 2 1 2 1 2 1 2;"));
        sentence(times(12, "1;"));
        due(x.strokes(), 12);

        says("BEST: how many of WAYS are come to by so few (0 without).");
        // the first word of each line is left, else there is a stroke ahead of it; six of 18 more are
        due(x.best(), 18564);
        fresh("line 1 1 1;");
        sentence("1;");
        due(x.strokes(), 1);
        // the first or the last is left by one stroke, the one between by two
        due(x.best(), 2);
        due(x.ways(), 3);
        sentence("1;1;");
        due(x.best(), 3);
        sentence("1;1;1;");
        due(x.best(), 1);
        sentence("1;1;1;1;");
        due(x.best(), 0);
        sentence("2;");
        due(x.best(), 0);
        fresh("");
        due(x.best(), 1);
        fresh(times(6, "line 7 7 7 7 7 7 7 7;"));
        law("0");
        sentence(times(12, "7;"));
        due(x.strokes(), 5);
        work("strike 0 0 7;strike 1 0 7;strike 2 0 7;strike 3 0 7;strike 4 0 7;strike 5 0 7;");
        due(x.strokes(), 2);
    }

    private static void unlikeRows() {
        says("UNLIKE of n (0 to 12).");
        fresh("line 1 2 1;line 2 1;");
        onlyFromTo(0, 12, n -> x.unlike(n));
        // of three all but 222; of four 2121, 1121, 1221, 1211, 1212
        long[] dues = {1, 2, 4, 7, 5, 1, 0};
        for (int n = 0; n < dues.length; n++) {
            due(x.unlike(n), dues[n]);
        }

        says("UNLIKE of n: how many unlike rows of n WORDS it could say, were any WORDS left.");
        work("strike 0 0 2;strike 1 0 1;");
        due(x.unlike(5), 1);
        due(x.unlike(3), 7);
        fresh("");
        due(x.unlike(0), 1);
        due(x.unlike(1), 0);
        due(x.unlike(12), 0);
        fresh(times(6, "line 7 7 7 7 7 7 7 7;"));
        due(x.unlike(12), 1);
        due(x.unlike(1), 1);
        fresh(times(3, "line 0 1 2 3 4 5 6 7;line 8 9 10 11 12 13 14 15;"));
        due(x.unlike(1), 16);
        due(x.unlike(2), 256);
        due(x.unlike(12), 66959140508L);
        // a word twice side by side, and parted by another one
        fresh("line 0 0 1 0;");
        due(x.unlike(1), 2);
        due(x.unlike(2), 3);
        due(x.unlike(3), 3);
        due(x.unlike(4), 1);
    }

    private static void forgers() {
        says("FORGED: strokes by which, made alone now, it would say the SENTENCE: how many, the first (by L, I, J).");
        fresh("line 1 1 2;line 1 1;");
        sentence("1;2;1;1;");
        due(x.forged(0), 2);
        due(x.forged(1), 0);
        sentence("1;1;2;1;");
        due(x.forged(0), 2);
        due(x.forged(1), 100);
        sentence("1;1;");
        due(x.forged(0), 1);
        due(x.forged(1), 2);
        // no stroke changes nothing: what is said now is not forged
        sentence("1;1;2;1;1;");
        due(x.says(), true);
        due(x.forged(0), 0);
        due(x.forged(1), NONE);
        // giving back, too
        work("strike 0 0 2;");
        due(x.forged(0), 1);
        due(x.forged(1), 2);
        sentence("1;");
        due(x.forged(0), 2);
        due(x.forged(1), 100);

        sentence("0;");
        due(x.forged(0), 0);
        due(x.forged(1), NONE);

        says("FORGED: 0 how many, 1 the first (100 times L, 10 times I, and J; NONE).");
        fresh(times(5, "line 1;") + "line 1 2 3 4 5 6 7 8;");
        law("0");
        work("strike 5 7 7;");
        sentence("1;1;1;1;1;1;2;3;4;5;6;");
        due(x.forged(1), 566);
        work("strike 5 7 7;strike 5 0 5;");
        sentence("1;1;1;1;1;7;");
        due(x.forged(0), 1);
        due(x.forged(1), 577);
        sentence("1;1;1;1;1;8;");
        due(x.forged(1), 566);
        sentence("1;1;1;1;1;");
        due(x.forged(1), 567);
        sentence("1;1;1;1;7;8;");
        due(x.forged(0), 5);
        due(x.forged(1), 0);
        fresh("");
        due(x.forged(0), 0);
        due(x.forged(1), NONE);
        // all of a line of eight, one by one
        fresh("line 1 1 1 1 1 1 1 1;");
        sentence(times(7, "1;"));
        due(x.forged(0), 8);
        due(x.forged(1), 0);
        sentence("");
        due(x.forged(0), 1);
        due(x.forged(1), 7);
    }

    // ---- lines against lines ----

    /** As the document tells it: the least that is not the value behind any one stroke. */
    private static int plainValue(int left, int[] known) {
        boolean[] seen = new boolean[32];
        for (int i = 0; i < 8; i++) {
            int one = 1 << i;
            int two = 3 << i;
            if ((left & one) == one) {
                seen[known[left ^ one]] = true;
            }
            if ((left & two) == two) {
                seen[known[left ^ two]] = true;
            }
        }
        int least = 0;
        while (seen[least]) {
            least++;
        }
        return least;
    }

    private static void eightOf(int left) {
        fresh("line 1 1 1 1 1 1 1 1;");
        law("0");
        StringBuilder steps = new StringBuilder();
        for (int i = 0; i < 8; i++) {
            if ((left >> i & 1) == 0) {
                steps.append("strike 0 ").append(i).append(' ').append(i).append(';');
            }
        }
        work(steps.toString());
    }

    private static void valuesOfLines() {
        says("VALUE of a LINE: the least whole number (from 0 on) that is not the VALUE it would have behind any one"
            + " such stroke.");
        int[] known = new int[256];
        for (int left = 0; left < 256; left++) {
            known[left] = plainValue(left, known);
            eightOf(left);
            due(x.value(0), known[left]);
        }
        int[] whole = {0, 1, 2, 3, 1, 4, 3, 2, 1};
        for (int n = 1; n <= 8; n++) {
            fresh("line" + times(n, " 0") + ";");
            due(x.value(0), whole[n]);
        }

        says("two strike by turns, each 1 WORD that is left, or 2 such of one LINE with numbers that follow one another"
            + " (so what is struck, by them or ahead of it, parts a LINE); who can't, has lost.");
        // parted by one that is struck: 1 and 1, from which nobody who is on turn wins; side by side he strikes both
        fresh("line 5 5 5;line 5 5;");
        work("strike 0 1 1;");
        due(x.value(0), 0);
        due(x.argument(1, 1), NONE);
        due(x.value(1), 2);
        due(x.argument(2, 1), 101);
        // who can't: nothing is left, the value is 0, and there is no stroke
        work("strike 1 0 1;");
        due(x.value(1), 0);
        due(x.argument(2, 0), 0);
        due(x.argument(2, 1), NONE);
        due(x.argument(0, 0), 0);
        due(x.argument(0, 1), NONE);
        // one of each of two lines is no stroke: 1 and 1 is lost
        fresh("line 5;line 5;");
        due(x.argument(3, 0), 0);
        due(x.argument(3, 1), NONE);
    }

    private static void winningStrokes() {
        says("1 the first WINNING stroke on these (100 times L, 10 times I, and J, the WORDS it strikes, I to J;"
            + " NONE).");
        int[] known = new int[256];
        for (int left = 0; left < 256; left++) {
            known[left] = plainValue(left, known);
        }
        for (int left = 0; left < 256; left++) {
            int first = NONE;
            for (int i = 7; i >= 0; i--) {
                for (int bits = 3; bits >= 1; bits -= 2) {
                    int struck = bits << i;
                    if ((left & struck) == struck && known[left ^ struck] == 0) {
                        first = 10 * i + i + (bits == 3 ? 1 : 0);
                    }
                }
            }
            eightOf(left);
            due(x.argument(1, 1), first);
            due(x.argument(1, 0), known[left]);
        }

        says("WINNING: a stroke behind which VALUES of all LINES, taken together bit by bit as odd or even, are 0.");
        // the values are 2, 3, 1, 1, 1, 2
        fresh("line 1 1;line 1 1 1;line 1;line 1;line 1;line 1 1;");
        due(x.argument(32, 1), 501);
        due(x.argument(16, 1), 400);
        due(x.argument(7, 0), 0);
        due(x.argument(7, 1), NONE);
        due(x.argument(39, 0), 2);
        // 2 and 3 and 1 and 2: without the first one it is 0, so both words of line 0 are struck
        due(x.argument(39, 1), 1);
        due(x.argument(33, 1), NONE);
        due(x.argument(34, 0), 1);
        // 3 against 2: a line of three is made one of two by its first word
        due(x.argument(34, 1), 100);

        says("ARGUMENT on told LINES (bits): 0 VALUES of these, taken together bit by bit as odd or even");
        due(x.argument(63, 0), 2 ^ 3 ^ 1 ^ 1 ^ 1 ^ 2);
        due(x.argument(0, 0), 0);
        due(x.argument(1, 0), 2);
        due(x.argument(32, 0), 2);
        due(x.argument(33, 0), 0);
        due(x.argument(3, 0), 1);
        due(x.argument(5, 0), 3);

        says("IllegalArgumentException: bits of no LINES (so below).");
        fresh("line 1;line 1;line 1;");
        onlyFromTo(0, 7, lines -> x.argument(lines, 0));
        onlyFromTo(0, 7, lines -> x.argument(lines, 1));
        onlyFromTo(0, 7, lines -> x.share(0, lines, 9));
        refused(ILLEGAL, () -> x.argument(9, 0));
        refused(ILLEGAL, () -> x.share(0, 9, 9));
        fresh(times(6, "line 1;"));
        onlyFromTo(0, 63, lines -> x.argument(lines, 0));
        fresh("");
        onlyFromTo(0, 0, lines -> x.argument(lines, 0));
        due(x.argument(0, 1), NONE);
    }

    private static void commonRows() {
        says("COMMON of two LINES: the most WORDS of a row that can be had by striking some (or none) of those that are"
            + " left in the one, and likewise in the other one.");
        fresh("line 1 2 3 4 5 6 7 8;line 1 2 3 4 5 6 7 8;line 8 7 6 5 4 3 2 1;line 9;line 0 2 0 4 0 6 0 8;line 1;");
        due(x.common(0, 1), 8);
        due(x.common(0, 2), 1);
        due(x.common(0, 3), 0);
        due(x.common(0, 4), 4);
        due(x.common(4, 0), 4);
        due(x.common(0, 5), 1);
        due(x.common(2, 5), 1);
        work("strike 0 0 0;strike 1 7 7;");
        due(x.common(0, 1), 6);
        due(x.common(0, 5), 0);
        work("strike 0 1 7;");
        due(x.common(0, 1), 0);
        due(x.common(1, 0), 0);

        says("COMMON of two LINES (of one: all that are left).");
        due(x.common(0, 0), 0);
        due(x.common(1, 1), 7);
        due(x.common(2, 2), 8);
        due(x.common(4, 4), 8);
        due(x.common(5, 5), 1);
    }

    private static void shares() {
        says("SHARES of n among told LINES (bits) by WORDS that are left: levelled: no more than that each, no more"
            + " than a bound, the greatest by which no more than n are given (all, if they are no more).");
        fresh("line 1;line 1 1 1;line 1 1 1 1 1 1 1 1;");
        int[][] dues = {{0, 0, 0, 0}, {1, 0, 0, 0}, {2, 0, 0, 0}, {3, 1, 1, 1}, {4, 1, 1, 1}, {5, 1, 2, 2},
            {6, 1, 2, 2}, {7, 1, 3, 3}, {8, 1, 3, 4}, {11, 1, 3, 7}, {12, 1, 3, 8}, {13, 1, 3, 8}, {200, 1, 3, 8}};
        for (int[] d : dues) {
            for (int l = 0; l < 3; l++) {
                due(x.share(l, 7, d[0]), d[1 + l]);
            }
        }
        // among two of them, among one
        due(x.share(2, 6, 10), 7);
        due(x.share(2, 6, 11), 8);
        due(x.share(2, 4, 7), 7);
        due(x.share(2, 4, 8), 8);
        // by those that are left: none of line 1, so it gets nothing and takes nothing off the others
        work("strike 1 0 2;strike 2 0 3;");
        due(x.share(1, 7, 200), 0);
        due(x.share(2, 7, 5), 4);
        due(x.share(2, 7, 4), 3);
        due(x.share(0, 7, 1), 0);
        due(x.share(0, 7, 2), 1);

        says("What a LINE gets of n (0 to 200) by SHARES among told LINES (0, if it is none of them).");
        onlyFromTo(0, 200, n -> x.share(0, 7, n));
        due(x.share(0, 6, 200), 0);
        due(x.share(2, 3, 200), 0);
        due(x.share(0, 0, 200), 0);
        // it is none of them, but n must be such a one all the same
        refused(ILLEGAL, () -> x.share(0, 6, 201));
        refused(ILLEGAL, () -> x.share(0, 6, -1));
    }

    private static void oftenDeedsLongest() {
        says("The WORD the PAGE SAYS most often (what 0), of alike ones the least, how often (1); NONE both: it says"
            + " nothing.");
        fresh("line 15 15 3;line 3 0;");
        due(x.often(0), 3);
        due(x.often(1), 2);
        work("strike 1 0 0;");
        due(x.often(0), 15);
        due(x.often(1), 2);
        work("strike 0 0 0;");
        due(x.often(0), 0);
        due(x.often(1), 1);
        work("wipe;strike 0 0 2;strike 1 0 1;");
        due(x.often(0), NONE);
        due(x.often(1), NONE);
        fresh("");
        due(x.often(0), NONE);
        due(x.often(1), NONE);
        fresh(times(6, "line 15 15 15 15 15 15 15 15;"));
        due(x.often(0), 15);
        due(x.often(1), 48);

        says("LINES (bits) of which the first WORD that is left is such a one (0 to 15).");
        fresh("line 0 15;line 15 0;line 0;line 7;line 7;line 0 0;");
        onlyFromTo(0, 15, word -> x.deeds(word));
        due(x.deeds(0), 1 + 4 + 32);
        due(x.deeds(15), 2);
        due(x.deeds(7), 8 + 16);
        due(x.deeds(1), 0);
        // of a line of which nothing is left, there is no first one: 0 is none
        work("strike 2 0 0;strike 0 0 0;strike 1 0 0;");
        due(x.deeds(0), 2 + 32);
        due(x.deeds(15), 1);
        fresh("");
        due(x.deeds(0), 0);

        says("The longest LINE by WORDS that are left (what 0), of alike ones the first, how many (1); NONE both: there"
            + " are no LINES.");
        fresh("line 1;line 1 2 3;line 1 2 3;");
        due(x.longest(0), 1);
        due(x.longest(1), 3);
        work("strike 1 0 0;");
        due(x.longest(0), 2);
        due(x.longest(1), 3);
        work("strike 1 1 2;strike 2 0 1;");
        due(x.longest(0), 0);
        due(x.longest(1), 1);
        // there are lines, but nothing is left of them
        work("strike 0 0 0;strike 2 2 2;");
        due(x.longest(0), 0);
        due(x.longest(1), 0);
        fresh("");
        due(x.longest(0), NONE);
        due(x.longest(1), NONE);
    }

    // ---- duels and chances: all that can be asked ----

    private static int[] had(int v, int w, int one, int other) {
        if (one == 0 && other == 0) {
            return new int[] {-w, -w};
        }
        if (one == 1 && other == 1) {
            return new int[] {w, w};
        }
        return one == 0 ? new int[] {v, 0} : new int[] {0, v};
    }

    private static void duels() {
        says("DUEL by v, w: each of two strikes, or waits: both strike: each has 0 less w; one strikes: it has v, the"
            + " other one 0; both wait: each has w; RESTS: neither would have more by the other thing.");
        bare();
        // nothing to have: all four rest; as much by striking as by waiting: three do, both striking does not
        due(x.duel(0, 0, 0), 4);
        due(x.duel(0, 0, 1), 0);
        due(x.duel(0, 0, 2), 0);
        due(x.duel(7, 7, 0), 3);
        due(x.duel(7, 7, 1), 1);
        due(x.duel(7, 7, 2), 7);
        due(x.duel(7, 8, 0), 1);
        due(x.duel(7, 8, 1), 11);
        due(x.duel(7, 8, 2), 16);
        due(x.duel(8, 7, 0), 2);
        due(x.duel(8, 7, 1), 1);
        due(x.duel(8, 7, 2), 8);
        // nothing lost by both striking
        due(x.duel(7, 0, 0), 3);
        due(x.duel(7, 0, 1), 0);
        due(x.duel(7, 0, 2), 0);

        says("DUEL by v, w (0 to 99): 0 how many RESTS, 1 the first (10 times what the one does, 0 it strikes, 1 it"
            + " waits, and the other one; NONE), 2 what both have by it together (0 without).");
        for (int v = 0; v <= 99; v++) {
            bare();
            for (int w = 0; w <= 99; w++) {
                int many = 0;
                int first = NONE;
                int together = 0;
                for (int pair = 3; pair >= 0; pair--) {
                    int one = pair / 2;
                    int other = pair % 2;
                    int[] here = had(v, w, one, other);
                    if (had(v, w, 1 - one, other)[0] <= here[0] && had(v, w, one, 1 - other)[1] <= here[1]) {
                        many++;
                        first = 10 * one + other;
                        together = here[0] + here[1];
                    }
                }
                due(x.duel(v, w, 0), many);
                due(x.duel(v, w, 1), first);
                due(x.duel(v, w, 2), together);
            }
        }
        bare();
        onlyFromTo(0, 99, v -> x.duel(v, 0, 0));
        onlyFromTo(0, 99, w -> x.duel(0, w, 0));
    }

    private static BigInteger big(int number) {
        return BigInteger.valueOf(number);
    }

    private static void chances() {
        says("CHANCE of n, k, q: each of n words is struck by q of 16, each by itself: how likely k or more are left.");
        bare();
        long[][] plain = {{1, 1, 4, 3, 4}, {1, 0, 4, 1, 1}, {1, 1, 16, 0, 1}, {1, 1, 0, 1, 1}, {1, 2, 0, 0, 1},
            {0, 0, 16, 1, 1}, {0, 1, 0, 0, 1}, {2, 1, 8, 3, 4}, {2, 2, 8, 1, 4}, {12, 12, 15, 1, 1L << 48}};
        for (long[] c : plain) {
            due(x.chance((int) c[0], (int) c[1], (int) c[2], 0), c[3]);
            due(x.chance((int) c[0], (int) c[1], (int) c[2], 1), c[4]);
        }

        says("CHANCE of n (0 to 12), k (0 to 13), q (0 to 16): above (part 0), below (part 1), in least terms.");
        for (int n = 0; n <= 12; n++) {
            for (int q = 0; q <= 16; q++) {
                bare();
                for (int k = 0; k <= 13; k++) {
                    BigInteger above = BigInteger.ZERO;
                    for (int set = 0; set < 1 << n; set++) {
                        int left = Integer.bitCount(set);
                        if (left >= k) {
                            above = above.add(big(16 - q).pow(left).multiply(big(q).pow(n - left)));
                        }
                    }
                    BigInteger below = big(16).pow(n);
                    BigInteger both = above.gcd(below);
                    due(x.chance(n, k, q, 0), above.divide(both).longValueExact());
                    due(x.chance(n, k, q, 1), below.divide(both).longValueExact());
                }
            }
        }
        bare();
        onlyFromTo(0, 12, n -> x.chance(n, 0, 0, 0));
        onlyFromTo(0, 13, k -> x.chance(0, k, 0, 0));
        onlyFromTo(0, 16, q -> x.chance(0, 0, q, 0));
        // 0 in least terms is 0 of 1
        due(x.chance(12, 13, 8, 0), 0);
        due(x.chance(12, 13, 8, 1), 1);
        due(x.chance(12, 0, 8, 0), 1);
        due(x.chance(12, 0, 8, 1), 1);
    }

    // ---- hands by seeds ----

    /** What is drawn by a seed, the n-th time (from 1 on), in numbers that do not wrap. */
    private static int drawn(int seed, int nth) {
        long s = seed & 0xffffffffL;
        for (int i = 0; i < nth; i++) {
            s = (s * 1103515245L + 12345L) & 0xffffffffL;
        }
        return (int) (s / 65536 % 32768);
    }

    private static void draws() {
        says("What is DRAWN: the SEED (32 bits) becomes itself times 1,103,515,245, and 12,345 (it wraps); its bits 16"
            + " to 30, what is left of them.");
        due(drawn(1, 1), 16838);
        due(drawn(1, 2), 5758);
        int[] seeds = {0, 1, 2, -1, -2, LOWEST, HIGHEST, LOWEST + 1, 12345, 0x7fff0000, 0x80000000, 77777777};
        for (int seed : seeds) {
            fresh("line 1 2;line 1 2 3 4 5;line 1 2 3 4 5 6 7 8;ink 200;");
            law("line*20+first");
            int l = drawn(seed, 1) % 3;
            int words = new int[] {2, 5, 8}[l];
            int i = drawn(seed, 2) % words;
            int j = drawn(seed, 3) % words;
            due(x.hand(seed, 1, 0, 0), 15 - (Math.abs(i - j) + 1));
            due(x.hand(seed, 1, 0, 1), 200 - (20 * l + Math.min(i, j)));
            due(x.hand(seed, 1, 0, 2), 1);
            // the fifth draw is the second stroke's first
            int again = drawn(seed, 5) % 3;
            int wordsAgain = new int[] {2, 5, 8}[again];
            int firstAgain = Math.min(drawn(seed, 6) % wordsAgain, drawn(seed, 7) % wordsAgain);
            due(x.hand(seed, 2, 0, 1), 200 - (20 * l + Math.min(i, j)) - (20 * again + firstAgain));
        }

        says("Without LINES nothing is DRAWN.");
        fresh("cell 1 9;ink 7;");
        int[] dues = {0, 7, 0, 9};
        for (int what = 0; what < 4; what++) {
            due(x.hand(5, 1, 0, what), dues[what]);
            due(x.hand(5, 96, 16, what), dues[what]);
        }
    }

    private static void hands() {
        says("A HAND by a SEED: so many times: DRAWN by how many LINES, L; DRAWN by how many WORDS it has, I; DRAWN"
            + " likewise, J: strike L, the lesser of I, J, the greater, as in WORK, with its COST (if it can be done)");
        fresh("line 1 2 3 4 5 6 7 8;ink 59;");
        law("60");
        due(x.hand(3, 96, 0, 0), 8);
        due(x.hand(3, 96, 0, 1), 59);
        due(x.hand(3, 96, 0, 2), 0);
        work("fill 1;");
        due(x.hand(3, 96, 0, 1), 0);
        due(x.hand(3, 96, 0, 2), 1);
        work("fill 99;");
        due(x.hand(3, 96, 0, 1), 159 - 120);
        due(x.hand(3, 96, 0, 2), 2);
        // strokes made ahead of it are none in it
        law("0");
        work("strike 0 0 0;strike 0 0 0;strike 0 0 0;");
        due(x.hand(3, 96, 0, 2), 96);
        due(x.told(4), 3);

        says("DRAWN by 16 below Q: run of 3, or, if that can't be done, begin (if it can).");
        fresh("line 8;line 8;line 8;line 8;line 8;ink 0;");
        int[] ran = {3, 5, 5, 8, 10, 10, 13};
        for (int times = 1; times <= 7; times++) {
            due(x.hand(9, times, 16, 3), ran[times - 1]);
            due(x.hand(9, times, 0, 3), 0);
        }
        due(x.hand(9, 96, 16, 3), 160);
        // one below it, one not
        for (int seed = 0; seed < 20; seed++) {
            int q = drawn(seed, 4) % 16;
            due(x.hand(seed, 1, q, 3), 0);
            due(x.hand(seed, 1, q + 1, 3), 3);
        }
        // over without a deed, the run is done, too: the next one is begin, and nothing is ever done
        fresh("line 8;line 9;ink 2;");
        work("strike 0 0 0;strike 1 0 0;");
        due(x.hand(9, 96, 16, 3), 0);
        // of one line, run and begin go by turns; each time four are drawn, though no stroke can be made
        fresh("line 8;ink 0;");
        for (int q = 0; q <= 16; q++) {
            int below = 0;
            for (int time = 1; time <= 96; time++) {
                below += drawn(q, 4 * time) % 16 < q ? 1 : 0;
            }
            due(x.hand(q, 96, q, 3), (below + 1) / 2);
        }

        says("A HAND of so many times (1 to 96), Q (0 to 16): 0 WORDS that are left then, 1 ink then, 2 strokes in it,"
            + " 3 what is in all CELLS together then.");
        fresh("line 8 9;line 10;cell 3 9;");
        onlyFromTo(1, 96, times -> x.hand(1, times, 0, 0));
        onlyFromTo(0, 16, q -> x.hand(1, 1, q, 0));
        due(x.hand(1, 1, 0, 3), 9);
        // it begins with what stands there now, wherever the run is
        work("run 2;");
        due(x.told(7), 11);
        law("60");
        work("strike 0 0 0;");
        due(x.hand(1, 1, 16, 3), 11);
        due(x.hand(1, 2, 16, 3), 13);
        due(x.hand(1, 1, 16, 0), 2);
        due(x.hand(1, 1, 16, 1), 0);
    }

    private static void spans() {
        says("Of so many SEEDS (1 to 20; seed, seed and 1, ..): 0 the fewest WORDS that are left then, 1 the most, 2 by"
            + " how many no WORD of a LINE is.");
        for (int seed : new int[] {0, -1, -20, HIGHEST, HIGHEST - 10, LOWEST}) {
            for (int many : new int[] {1, 2, 20}) {
                fresh("line 1 2 3 4;line 5;line 6 7;");
                int fewest = HIGHEST;
                int most = LOWEST;
                for (int i = 0; i < many; i++) {
                    fewest = Math.min(fewest, x.hand(seed + i, 9, 5, 0));
                    most = Math.max(most, x.hand(seed + i, 9, 5, 0));
                }
                due(x.span(seed, many, 9, 5, 0, 0), fewest);
                due(x.span(seed, many, 9, 5, 1, 2), most);
            }
        }
        // one stroke: it is on line 0 or on line 1, which has one word
        fresh("line 8;line 9;");
        for (int seed : new int[] {0, -3, HIGHEST - 1}) {
            int onFirst = 0;
            for (int i = 0; i < 20; i++) {
                onFirst += drawn(seed + i, 1) % 2 == 0 ? 1 : 0;
            }
            due(x.span(seed, 20, 1, 0, 2, 0), onFirst);
            due(x.span(seed, 20, 1, 0, 2, 1), 20 - onFirst);
            due(x.span(seed, 20, 1, 0, 0, 0), 1);
            due(x.span(seed, 20, 1, 0, 1, 0), 1);
        }
        fresh("line 8;");
        due(x.span(1, 20, 1, 0, 2, 0), 20);
        due(x.span(1, 20, 1, 0, 1, 0), 0);
        due(x.span(1, 20, 2, 0, 2, 0), 0);
        due(x.span(1, 20, 2, 0, 0, 0), 1);
        onlyFromTo(1, 20, many -> x.span(0, many, 1, 0, 0, 0));
        onlyFromTo(1, 96, times -> x.span(0, 1, times, 0, 0, 0));
        onlyFromTo(0, 16, q -> x.span(0, 1, 1, q, 0, 0));

        says("(IllegalArgumentException: no such LINE, also for 0, 1.)");
        fresh("line 8;line 9;");
        for (int what = 0; what <= 2; what++) {
            int each = what;
            onlyFromTo(0, 1, line -> x.span(0, 1, 1, 0, each, line));
        }
        fresh("");
        for (int what = 0; what <= 2; what++) {
            int each = what;
            refused(ILLEGAL, () -> x.span(0, 1, 1, 0, each, 0));
        }
        due(x.status(0), 0);
    }

    // ---- counts ----

    private static void counted() {
        says("How many calls were refused: 0 NoSuchElementException, 1 IllegalArgumentException; NONE for others. (No"
            + " IMAGE keeps it.)");
        bare();
        due(x.status(0), 0);
        due(x.status(1), 0);
        for (int other : new int[] {-1, 2, LOWEST, HIGHEST}) {
            due(x.status(other), NONE);
        }
        // no exception, no refusal: a fault, NONE, -1, a step that is refused
        page("x");
        work("wipe;");
        x.undo();
        x.undo();
        x.restore();
        x.often(0);
        due(x.status(0) + x.status(1), 0);
        refused(NO_SUCH, () -> x.value(0));
        refused(NO_SUCH, () -> x.line(0, 99));
        refused(ILLEGAL, () -> x.told(99));
        x.image();
        refused(NO_SUCH, () -> x.value(0));
        refused(ILLEGAL, () -> x.told(99));
        work("");
        due(x.restore(), 0);
        due(x.undo(), -1);
        due(x.status(0), 3);
        due(x.status(1), 2);
        page("line 1;");
        due(x.status(0), 3);
        due(x.status(1), 2);

        says("An object is used for at most 512 calls after it has been made");
        bare();
        int thrown = 0;
        for (int call = 1; call < 512; call++) {
            try {
                x.told(-call);
            } catch (IllegalArgumentException e) {
                thrown++;
            }
        }
        due(x.status(1), 511);
        due(thrown, 511);

        says("0 IMAGES, 1 bytes of the TAPE, 2 WORKS that can be undone; NONE for others.");
        bare();
        for (int what = 0; what <= 2; what++) {
            due(x.count(what), 0);
        }
        for (int other : new int[] {-1, 3, LOWEST, HIGHEST}) {
            due(x.count(other), NONE);
        }
        x.image();
        x.image();
        x.image();
        x.image();
        due(x.count(0), 3);
        for (int i = 0; i < 31; i++) {
            x.feed(0x20202020, 0x20202020, 0x20202020, 0x20202020, 0x20202020);
        }
        due(x.count(1), 600);
        due(x.work(150), 0);
        due(x.count(1), 0);
        for (int i = 0; i < 16; i++) {
            x.work(0);
        }
        due(x.count(2), 16);
        x.undo();
        due(x.count(2), 15);
        x.restore();
        due(x.count(0), 2);
        due(x.count(2), 0);
        x.page(0);
        due(x.count(0), 0);
        // what one object is told, another one knows nothing of
        StruckPage other = x;
        fresh("line 1 2;ink 9;");
        work("strike 0 0 0;");
        x.image();
        due(other.told(0), 0);
        due(other.told(3), 60);
        due(other.count(0), 0);
        due(other.count(2), 0);
    }
}
