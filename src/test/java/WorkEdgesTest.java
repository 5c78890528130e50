/** The sentences of the document that name a boundary of what work does: steps, deeds, undoing, images. */
public final class WorkEdgesTest extends Bench {
    public static void main(String[] args) throws Exception {
        atFirst();
        stepsInOrder();
        strikes();
        runs();
        beginFillWipeSet();
        whereADeedIsDone();
        deedsOnCells();
        deedsThatGo();
        deedsThatStrike();
        undone();
        images();
        apartFromAnImage();
        end(args);
    }

    // ---- steps ----

    private static void atFirst() {
        says("At first no WORD is struck, the run is at LINE 0 (OVER, if there are no LINES), no stroke was made, no"
            + " DEED done.");
        fresh("line 1 2;line 3;");
        alike(desk(), "struck 0 0, ink 60, strokes 0, at 0, deeds 0, cells 0 0 0 0");
        due(work("run 1;"), 1);
        fresh("cell 1 3;");
        due(x.told(5), 0);
        due(x.told(5), x.told(0));
        due(x.ends(), 0);
        // over, so that no run can be done
        refusedStep("run 1;");
        refusedStep("begin;");
    }

    private static void stepsInOrder() {
        says("STEPS are done in order; one that can't be done is REFUSED, and changes nothing");
        fresh("line 8;line 9;ink 9;");
        due(work("set 0 5;set 0 6;strike 0 1 1;run 1;run 1;run 1;set 2 4;"), 5);
        due(x.told(9), 2);
        cells(7, 1, 4, 0);
        fresh("line 8;");
        due(work("run 1;run 1;begin;begin;run 1;"), 3);
        due(x.told(9), 2);
        due(x.told(6), 2);

        says("200 STEPS at most are begun by one WORK (an again, too, each time it is come to; REFUSED ones, too), what"
            + " would come behind is left out.");
        fresh("line 1;");
        // 1 and 180, 1 and 17 of which 16 are refused: 199 ahead of the last two, of which one is left out
        due(work("again 60[set 0 1;set 0 2;set 0 3;];again 17[set 0 0;];set 1 7;set 2 7;"), 182);
        due(x.told(9), 16);
        cells(0, 7, 0, 0);
        // one fewer, and the last one is begun
        due(work("again 60[set 0 1;set 0 2;set 0 3;];again 16[set 0 0;];set 1 8;set 2 8;"), 183);
        due(x.told(9), 15);
        cells(0, 8, 8, 0);
        // 1 and 60 agains with 60 steps, 1 and 60 agains, 1 and 16 agains: 199 ahead of the last two
        due(work("again 60[again 1[set 0 1;];];again 60[again 0[wipe;];];again 16[again 0[];];set 1 9;set 2 9;"), 2);
        due(x.told(9), 59);
        cells(1, 9, 8, 0);
        // all 200 begun by agains that do nothing, what stands behind them is left out, refused or not
        due(work("again 60[again 9[];again 9[];again 9[];];again 18[again 9[];];set 1 1;wipe;"), 0);
        due(x.told(9), 0);
        cells(1, 9, 8, 0);
        // the rounds of an again are cut short, too: one of 120, and 77 behind the third again
        due(work("again 60[again 60[set 0 5;set 0 6;];];"), 200 - 3);
        due(x.cell(0), 5);
        // a new work begins to count anew, and nothing of the loops of the one ahead of it is left
        due(work("set 3 1;set 3 2;set 3 3;set 3 4;"), 4);
    }

    private static void strikes() {
        says("strike: the WORDS I to J of LINE L: who is struck is given back, who is not is struck; there is COST less"
            + " ink, one stroke more was made (REFUSED, if I is above J, LINE L has no WORD J, or COST is more than the"
            + " ink).");
        fresh("line 1 2 3;line 4 5 6 7 8 9 10 11;ink 20;");
        due(work("strike 0 0 0;strike 0 2 2;strike 1 0 7;"), 3);
        alike(desk(), "struck 5 255, ink 13, strokes 3, at 0, deeds 0, cells 0 0 0 0");
        due(work("strike 0 0 2;strike 1 3 4;"), 2);
        alike(desk(), "struck 2 231, ink 9, strokes 5, at 0, deeds 0, cells 0 0 0 0");
        refusedStep("strike 0 1 0;");
        refusedStep("strike 1 7 6;");
        refusedStep("strike 0 2 3;");
        refusedStep("strike 0 3 3;");
        refusedStep("strike 0 0 7;");
        // as much as the ink is not more than it
        law("9");
        due(work("strike 0 1 2;"), 1);
        due(x.told(3), 0);
        law("1");
        refusedStep("strike 0 0 0;");
        law("0");
        due(work("strike 0 0 0;"), 1);
        law("6");
        due(work("fill 5;strike 0 0 0;"), 1);
        due(x.told(3), 5);
        due(x.told(9), 1);
        due(work("fill 1;strike 0 0 0;"), 2);
        due(x.told(3), 0);
    }

    private static void runs() {
        says("run: up to N DEEDS are done, until it is OVER (REFUSED, if it is OVER already; it is done, too, if it"
            + " comes to be OVER without a DEED).");
        fresh("line 8;line 9;line 10;line 11;");
        due(work("run 3;"), 1);
        due(x.told(6), 3);
        due(x.told(5), 3);
        due(work("run 99;"), 1);
        due(x.told(6), 4);
        due(x.told(5), 4);
        cells(1, 1, 1, 1);
        refusedStep("run 1;");
        fresh("line 5 0;");
        due(work("run 99;"), 1);
        due(x.told(6), 99);
        // no word is left from where the run is on: not yet over, so the run is done, and over without a deed
        fresh("line 8;line 9;line 9;");
        due(work("run 1;strike 1 0 0;strike 2 0 0;"), 3);
        due(x.told(5), 1);
        due(work("run 5;"), 1);
        due(x.told(5), 3);
        due(x.told(6), 1);
        refusedStep("run 5;");
        // as many deeds as there are: the lines behind without a word are not gone over
        fresh("line 8;line 9;line 9;");
        due(work("strike 1 0 0;strike 2 0 0;run 1;"), 3);
        due(x.told(5), 1);
        due(work("run 1;run 1;"), 1);
        due(x.told(5), 3);
    }

    private static void beginFillWipeSet() {
        says("begin: the run is at LINE 0 (REFUSED, if it is there already, whatever is left of that LINE, or there are"
            + " no LINES).");
        fresh("line 8;line 9;");
        refusedStep("begin;");
        due(work("run 1;begin;"), 2);
        due(x.told(5), 0);
        due(x.told(6), 1);
        due(work("run 2;begin;"), 2);
        due(x.told(5), 0);
        due(work("strike 0 0 0;"), 1);
        refusedStep("begin;");
        due(work("run 1;begin;"), 2);
        due(x.told(5), 0);
        fresh("");
        refusedStep("begin;");

        says("fill: N more ink, 200 at most (REFUSED at 200).");
        fresh("ink 0;");
        due(work("fill 1;"), 1);
        due(x.told(3), 1);
        due(work("fill 99;fill 99;"), 2);
        due(x.told(3), 199);
        due(work("fill 1;"), 1);
        due(x.told(3), 200);
        refusedStep("fill 1;");
        fresh("ink 199;");
        due(work("fill 99;"), 1);
        due(x.told(3), 200);
        fresh("ink 200;");
        refusedStep("fill 99;");

        says("wipe: all WORDS are given back (REFUSED, if none is struck).");
        fresh("line 1 2;line 3;line 4 5 6;");
        refusedStep("wipe;");
        due(work("strike 0 1 1;strike 2 0 2;"), 2);
        due(work("wipe;"), 1);
        alike(desk(), "struck 0 0 0, ink 57, strokes 2, at 0, deeds 0, cells 0 0 0 0");
        refusedStep("wipe;");
        due(work("strike 2 2 2;wipe;"), 2);
        due(x.told(2), 6);
        fresh("");
        refusedStep("wipe;");

        says("set: there are N in CELL C (REFUSED, if there are).");
        fresh("cell 1 5;");
        refusedStep("set 1 5;");
        refusedStep("set 0 0;");
        due(work("set 1 0;set 0 999;set 3 1;"), 3);
        cells(999, 0, 0, 1);
        refusedStep("set 0 999;");
    }

    // ---- deeds ----

    private static void whereADeedIsDone() {
        says("A DEED: the LINE at which the run is, or, if none of its WORDS is left (not struck), the next one of"
            + " which any is (none: it is OVER, and no DEED was done)");
        fresh("line 8;line 9 9;line 10;line 11;");
        work("strike 0 0 0;strike 1 0 1;");
        due(work("run 1;"), 1);
        due(x.told(5), 3);
        due(x.told(6), 1);
        cells(0, 0, 1, 0);
        due(work("strike 3 0 0;run 1;"), 2);
        due(x.told(5), 4);
        due(x.told(6), 1);
        // the next one is sought behind, not ahead
        fresh("line 8;line 9;");
        work("run 1;strike 1 0 0;run 1;");
        due(x.told(5), 2);
        due(x.told(6), 1);

        says("by the WORDS of it that are left, the first a, the second b, the third c (0, if it is not there), the run"
            + " is then at the next LINE (behind the last one it is OVER)");
        fresh("line 7 1 0 3 2 9;line 1 2;line 1;line 5;");
        // left are 1, 3, 9: nine more in cell 3
        work("strike 0 0 0;strike 0 2 2;strike 0 4 4;run 1;");
        cells(0, 0, 0, 9);
        due(x.told(5), 1);
        work("run 1;");
        cells(0, 0, 0, 9);
        work("run 1;");
        cells(0, 0, 0, 9);
        due(x.told(5), 3);
        // 5 alone: at line 0
        work("run 1;");
        due(x.told(5), 0);
        fresh("line 0;line 15;");
        work("run 1;");
        due(x.told(5), 1);
        work("run 1;");
        due(x.told(5), 2);
        due(x.told(6), 2);
        refusedStep("run 1;");

        says("a 0: nothing.");
        fresh("line 0 3 9;line 0;cell 3 1;");
        work("run 1;");
        alike(desk(), "struck 0 0, ink 60, strokes 0, at 1, deeds 1, cells 0 0 0 1");
    }

    private static void deedsOnCells() {
        says("1: c more in CELL b (its remainder by 4, so below; 999 at most).");
        fresh("line 1 0 15;line 1 3 15;line 1 4 15;line 1 15 15;line 1 14 0;");
        work("set 0 984;set 3 983;run 2;");
        cells(999, 0, 0, 998);
        work("run 2;");
        cells(999, 0, 0, 999);
        work("run 1;");
        cells(999, 0, 0, 999);

        says("2: c less in CELL b (0 at least).");
        fresh("line 2 0 15;line 2 5 15;line 2 15 15;line 2 2 1;cell 0 15;cell 1 16;cell 3 14;cell 2 0;");
        work("run 4;");
        cells(0, 1, 0, 0);
        due(x.told(6), 4);
        fresh("line 2 0 15;line 2 5 1;line 2 15 2;line 2 10 3;line 2 13;cell 0 20;cell 1 40;cell 2 60;cell 3 80;");
        work("run 5;");
        cells(5, 39, 57, 78);

        says("3: there is as much in CELL b as in CELL c.");
        fresh("line 3 2 3;line 3 4 7;line 3 1;line 3;cell 0 5;cell 1 6;cell 3 99;");
        work("run 1;");
        cells(5, 6, 99, 99);
        // remainders: 0 and 3
        work("run 1;");
        cells(99, 6, 99, 99);
        // what is not there is 0, in both places
        work("run 1;");
        cells(99, 99, 99, 99);
        work("set 0 7;run 1;");
        cells(7, 99, 99, 99);

        says("8 to 15: 1 more in CELL a (999 at most).");
        fresh("line 8 3 9;line 9;line 10;line 11;line 14;line 15;");
        work("run 4;");
        cells(1, 1, 1, 1);
        work("run 2;");
        cells(1, 1, 2, 2);
        fresh("line 12;line 13;line 8;");
        work("set 0 998;set 1 999;run 2;");
        cells(999, 999, 0, 0);
        work("run 1;");
        cells(999, 999, 0, 0);
    }

    private static void deedsThatGo() {
        says("4: is there nothing in CELL b, it is at LINE c (there is none such: it is OVER).");
        fresh("line 4 1 2;line 8;line 4 5 0;line 8;");
        work("run 1;");
        due(x.told(5), 2);
        work("run 1;");
        due(x.told(5), 0);
        work("set 1 1;run 1;");
        due(x.told(5), 1);
        work("run 2;");
        due(x.told(5), 3);
        fresh("line 4 0 3;line 8;line 8;");
        work("run 1;");
        due(x.told(5), 3);
        due(x.told(6), 1);
        refusedStep("run 1;");
        fresh("line 4 0 15;line 8;line 8;");
        work("run 1;");
        due(x.told(5), 3);
        fresh("line 4 0 2;line 8;line 8;");
        work("run 1;");
        due(x.told(5), 2);
        // there is something in the cell: none such does not matter
        fresh("line 4 0 15;line 8;line 8;cell 0 1;");
        work("run 1;");
        due(x.told(5), 1);

        says("5: it is at LINE b (likewise).");
        fresh("line 5 2;line 8;line 5 2;");
        work("run 2;");
        due(x.told(5), 2);
        due(x.told(6), 2);
        fresh("line 5 3;line 8;line 8;");
        work("run 1;");
        due(x.told(5), 3);
        refusedStep("run 1;");
        fresh("line 5 15;line 8;");
        work("run 1;");
        due(x.told(5), 2);
        // a line's number is no remainder: 4 is none such of two lines
        fresh("line 5 4;line 8;");
        work("run 1;");
        due(x.told(5), 2);
        // at a line of which nothing is left: it is there, and the next deed is done behind it
        fresh("line 5 1;line 8;line 9;");
        work("strike 1 0 0;run 1;");
        due(x.told(5), 1);
        work("run 1;");
        due(x.told(5), 3);
        cells(0, 1, 0, 0);

        says("7: it is OVER.");
        fresh("line 7;line 8;line 9;");
        work("run 9;");
        due(x.told(5), 3);
        due(x.told(6), 1);
        due(x.told(7), 0);
        refusedStep("run 1;");
    }

    private static void deedsThatStrike() {
        says("6: WORD c of LINE b is struck, or given back, if there is such a one.");
        fresh("line 6 1 2;line 0 1 2;line 5 0;ink 0;");
        work("run 1;");
        alike(desk(), "struck 0 4 0, ink 0, strokes 0, at 1, deeds 1, cells 0 0 0 0");
        work("run 3;");
        alike(desk(), "struck 0 0 0, ink 0, strokes 0, at 1, deeds 4, cells 0 0 0 0");
        // no such word, no such line, neither by a remainder
        for (String none : new String[] {"1 3", "1 8", "1 15", "3", "4", "15", "15 15"}) {
            fresh("line 6 " + none + ";line 0 0 0;line 0 0 0;");
            work("run 1;");
            alike(desk(), "struck 0 0 0, ink 60, strokes 0, at 1, deeds 1, cells 0 0 0 0");
        }
        // on itself: from its own words, the first goes
        fresh("line 6;");
        work("run 1;");
        alike(desk(), "struck 1, ink 60, strokes 0, at 1, deeds 1, cells 0 0 0 0");
        // the last word of the last line
        fresh("line 6 5 7;" + times(4, "line 0;") + "line 1 1 1 1 1 1 1 1;");
        work("run 1;");
        due(x.line(5, 2), 128);
    }

    // ---- undoing and images ----

    private static void undone() {
        says("The latest WORK that was done (of no STEPS, or with all of them REFUSED, too) is undone: how many are"
            + " left; -1: there is none.");
        fresh("line 8 9;line 10;cell 2 4;");
        due(x.undo(), -1);
        String first = desk();
        work("strike 0 0 0;run 1;set 2 5;fill 7;");
        String second = desk();
        work("wipe;begin;strike 1 0 0;run 2;set 2 6;");
        String third = desk();
        work("");
        work("strike 0 1 0;again 2[set 2 6;];");
        due(x.told(9), 3);
        alike(desk(), third);
        due(x.undo(), 3);
        alike(desk(), third);
        due(x.told(9), 0);
        due(x.undo(), 2);
        alike(desk(), third);
        due(x.undo(), 1);
        alike(desk(), second);
        due(x.undo(), 0);
        alike(desk(), first);
        due(x.undo(), -1);
        alike(desk(), first);
        // a text with a fault was not done
        due(work("x"), -9);
        due(x.undo(), -1);
        // all sixteen
        for (int i = 1; i <= 16; i++) {
            work("set 0 " + i + ";");
        }
        due(work("set 0 17;"), -20);
        for (int i = 15; i >= 0; i--) {
            due(x.undo(), i);
            due(x.cell(0), i);
        }
        due(x.undo(), -1);
        alike(desk(), first);
    }

    private static void images() {
        says("An IMAGE of all that WORK changes, and of WORKS that can be undone: how many there are; -1: there are"
            + " 3.");
        fresh("line 8 9;line 10;cell 2 4;");
        work("strike 0 0 0;run 1;");
        due(x.image(), 1);
        work("wipe;set 3 8;");
        due(x.image(), 2);
        work("strike 1 0 0;");
        String third = desk();
        due(x.image(), 3);
        work("fill 9;");
        asked(() -> x.image(), -1);
        due(x.count(0), 3);
        // the one that was refused is not there: the latest is still the third
        due(x.restore(), 2);
        alike(desk(), third);
        due(x.image(), 3);
        due(x.image(), -1);

        says("All that is as in the latest IMAGE, which is gone: how many are left; -1: there is none.");
        fresh("line 8 9;line 10;cell 2 4;");
        due(x.restore(), -1);
        String bare = desk();
        work("strike 0 0 0;run 1;set 2 5;");
        String first = desk();
        due(x.image(), 1);
        // what was undone behind the image can be undone behind restore() again
        due(x.undo(), 0);
        alike(desk(), bare);
        work("set 1 1;");
        work("set 1 2;begin;wipe;");
        work("set 1 3;fill 1;fill 2;set 1 3;");
        String second = desk();
        due(x.told(9), 1);
        due(x.image(), 2);
        due(x.told(9), 1);
        work("run 9;");
        due(x.restore(), 1);
        alike(desk(), second);
        due(x.told(9), 0);
        due(x.count(2), 3);
        due(x.restore(), 0);
        alike(desk(), first);
        due(x.count(2), 1);
        due(x.restore(), -1);
        alike(desk(), first);
        due(x.undo(), 0);
        alike(desk(), bare);
        due(x.undo(), -1);
        // sixteen works in the image, none behind it
        for (int i = 1; i <= 16; i++) {
            work("set 0 " + i + ";");
        }
        x.image();
        for (int i = 1; i <= 16; i++) {
            x.undo();
        }
        for (int i = 1; i <= 9; i++) {
            work("set 1 " + i + ";");
        }
        due(x.restore(), 0);
        due(x.count(2), 16);
        for (int i = 15; i >= 0; i--) {
            due(x.undo(), i);
            due(x.cell(0), i);
            due(x.cell(1), 0);
        }
        // law and sentence are nothing that work changes
        law("7");
        sentence("1;2;");
        x.image();
        law("8");
        sentence("3;");
        x.restore();
        due(x.cost(0, 0, 0), 8);
        due(x.told(8), 1);
    }

    private static void apartFromAnImage() {
        says("WORDS that are struck now and were not in the latest IMAGE, or the other way round (nothing else of it is"
            + " asked); NONE: there is none.");
        fresh("line 1 2 3 4 5 6 7 8;line 9 9;line 8;ink 200;");
        asked(() -> x.apart(), NONE);
        work("strike 0 0 1;");
        x.image();
        asked(() -> x.apart(), 0);
        work("set 0 9;run 1;fill 1;strike 1 0 0;strike 1 0 0;");
        due(x.apart(), 0);
        // one is given back, one is struck
        work("strike 0 1 2;");
        due(x.apart(), 2);
        work("strike 1 0 1;strike 2 0 0;");
        due(x.apart(), 5);
        x.image();
        due(x.apart(), 0);
        x.restore();
        due(x.apart(), 5);
        x.restore();
        due(x.apart(), NONE);
        x.image();
        page("line 1;");
        due(x.apart(), NONE);
        fresh(times(6, "line 1 2 3 4 5 6 7 8;"));
        law("0");
        x.image();
        work("again 6[strike 0 0 7;];strike 1 0 7;strike 2 0 7;strike 3 0 7;strike 4 0 7;strike 5 0 7;");
        due(x.apart(), 40);
        work("strike 0 0 7;");
        due(x.apart(), 48);
        due(x.mends(), 6);

        says("The fewest strokes by which just those WORDS would be struck as in the latest IMAGE; NONE: there is"
            + " none.");
        fresh("line 1 2 3 4 5 6 7 8;line 1 2 3 4 5 6 7 8;line 1;ink 0;");
        law("0");
        asked(() -> x.mends(), NONE);
        x.image();
        asked(() -> x.mends(), 0);
        work("strike 0 0 7;");
        asked(() -> x.mends(), 1);
        work("strike 0 3 4;");
        due(x.mends(), 2);
        // one by one: as many as can be needed in a line
        work("wipe;strike 0 0 0;strike 0 2 2;strike 0 4 4;strike 0 6 6;");
        due(x.mends(), 4);
        work("strike 0 0 7;");
        due(x.mends(), 4);
        // no stroke goes from a line to the next one
        work("wipe;strike 0 7 7;strike 1 0 0;");
        due(x.mends(), 2);
        x.image();
        work("wipe;");
        due(x.mends(), 2);
        work("strike 0 0 7;strike 1 0 7;strike 2 0 0;");
        due(x.mends(), 3);
        x.restore();
        x.restore();
        due(x.mends(), NONE);
    }
}
