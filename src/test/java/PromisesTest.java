/** The forty promises, one by one: ordinary inputs, the edges the document names, wrong inputs. */
public final class PromisesTest extends Bench {
    public static void main(String[] args) throws Exception {
        newObject();
        feedAndTexts();
        pageFaults();
        laws();
        works();
        sentences();
        undoAndImages();
        tellings();
        deedsOfTheRun();
        ahead();
        sayings();
        games();
        sums();
        hands();
        counts();
        end(args);
    }

    // ---- the promises ----

    private static void newObject() {
        of(1);
        x = new StruckPage();
        due(NONE, -1);
        int[] told = {0, 0, 0, 60, 0, 0, 0, 0, 0, 0, 0};
        for (int what = 0; what < told.length; what++) {
            due(x.told(what), told[what]);
        }
        due(x.fault(), NONE);
        due(x.count(0), 0);
        due(x.count(1), 0);
        due(x.count(2), 0);
        due(x.status(0), 0);
        due(x.status(1), 0);
        due(x.would(7, 0, 0, 0, 0, 0, 0), 4);
        due(x.says(), true);
        due(work("run 1;begin;wipe;fill 1;set 0 0;"), 1);
        due(x.told(9), 4);
        faulty(work("strike 0 0 0;"), 2, 7);
    }

    private static void feedAndTexts() {
        of(2);
        x = new StruckPage();
        for (int i = 1; i <= 30; i++) {
            due(x.feed(0x20202020, -1, 0, 1, 2), 20 * i);
        }
        due(x.feed(0, 0, 0, 0, 0), NONE);
        due(x.count(1), 600);
        due(x.page(4), 0);
        due(x.count(1), 0);
        // "ink " "7;  " told by numbers: the highest byte of each comes first
        x.feed(0x696e6b20, 0x373b2020, 0, 0, 0);
        due(x.page(8), 0);
        due(x.told(3), 7);
        // a byte above 127 is no sign of any text
        x.feed(0xe96e6b20, 0x373b2020, 0, 0, 0);
        faulty(x.page(8), 1, 0);

        of(3);
        fresh("line 1 2 3;cell 2 7;cell 2 9;ink 5;ink 6;line 4;");
        due(x.told(0), 2);
        due(x.told(1), 4);
        due(x.cell(2), 9);
        due(x.told(3), 6);
        due(page("line 15 0 ;line 1 1 1 1 1 1 1 1;"), 10);
        due(x.told(3), 60);
        due(x.cell(2), 0);
        due(page(" line 3  4;  "), 2);
        due(page("line3;cell0 5;ink9;"), 1);
        due(x.cell(0), 5);
        due(page("line 1" + times(586, " ") + "2;" + times(6, " ")), 2);
        due(page("line 0007;ink 00200;"), 1);
        due(x.word(0, 0, 0), 7);
        due(x.told(3), 200);
        fresh("line 1 2 3;line 4 5;");
        law("9");
        sentence("1;2;");
        work("strike 0 0 0;run 1;strike 0 1 0;");
        x.image();
        due(x.told(9), 1);
        faulty(page("line 1;x"), 1, 7);
        due(x.told(0), 2);
        due(x.told(2), 4);
        due(x.told(8), 2);
        due(x.told(9), 1);
        due(x.count(0), 1);
        due(x.count(2), 1);
        due(x.cost(0, 0, 0), 9);
        put("line 1;");
        refused(ILLEGAL, () -> x.page(21));
        refused(ILLEGAL, () -> x.page(-1));
        due(x.count(1), 20);
        due(x.fault(), 7);
        due(x.page(7), 1);
        due(x.fault(), NONE);
        due(x.told(2), 1);
        due(x.told(4), 0);
        due(x.told(5), 0);
        due(x.told(6), 0);
        due(x.told(8), 0);
        due(x.told(9), 0);
        due(x.count(0), 0);
        due(x.count(1), 0);
        due(x.count(2), 0);
        due(x.cost(0, 0, 0), 1);
        due(x.undo(), -1);
        due(x.restore(), -1);
        due(x.page(0), 0);
        due(x.told(0), 0);
    }

    private static void pageFaults() {
        of(3);
        x = new StruckPage();
        due(page(times(60, "ink1;")), 0);
        faulty(page(times(60, "ink1;") + " ink 999;"), 3, 301);
        faulty(page(times(60, "ink1;") + "inks;"), 1, 300);
        faulty(page(times(60, "ink1;") + "7"), 1, 300);
        due(page(times(60, "ink1;") + "  "), 0);
        due(page(times(6, "line 1;")), 6);
        faulty(page(times(6, "line 1;") + "cell 0 0;line"), 3, 51);
        faulty(page("line 1 2 3 4 5 6 7 8 9"), 3, 21);
        faulty(page("line 1 2 3 4 5 6 7 8 99"), 2, 21);
        faulty(page("line 1 2 3 4 5 6 7 8 x"), 1, 21);
        faulty(page("line 99999999999999999999;"), 2, 5);
        faulty(page("line 1  "), 1, 8);
        faulty(page("line "), 1, 5);
        faulty(page("line 1 -2;"), 1, 7);
        faulty(page("Line 1;"), 1, 0);
        faulty(page("line\t1;"), 1, 4);
        faulty(page("cell 0;"), 1, 6);
        faulty(page("cell 0 1 2;"), 1, 9);
        faulty(page("ink 1 2;"), 1, 6);
        faulty(page("line 1;;"), 1, 7);
        faulty(page("line 16 x"), 2, 5);
        faulty(page("lineone 1;"), 1, 0);
        faulty(page("lin 1;"), 1, 0);
        of(7);
        due(x.fault(), 0);
        due(page("ink 3;"), 0);
        due(x.fault(), NONE);
        faulty(law("1+"), 1, 2);
        due(x.fault(), 2);
        refused(ILLEGAL, () -> x.page(1));
        due(x.fault(), 2);
        faulty(work("run 0;"), 2, 4);
        due(x.sentence(0), 0);
        due(x.fault(), NONE);
    }

    private static int worth(String text) {
        due(law(text), 1);
        return x.would(4, 2, 3, 5, 40, 190, 20);
    }

    private static void laws() {
        of(4);
        fresh("line 1 2 3 4;");
        due(worth("words"), 4);
        due(worth("struck"), 2);
        due(worth("first"), 3);
        due(worth("line"), 5);
        due(worth("left"), 40);
        due(worth("ink - 150"), 40);
        due(worth("cell"), 20);
        due(worth("ink"), 60);
        due(worth("1 - 2"), 0);
        due(worth("2 + 3 * 4"), 14);
        due(worth("(2 + 3) * 4"), 20);
        due(worth("20 - 5 - 3"), 12);
        due(worth("40 / 4 / 2"), 5);
        due(worth("7 / (0 - 2) + 10"), 7);
        due(worth("(0 - 7) / 2 + 10"), 7);
        due(worth("(0 - 7) % 4 + 10"), 7);
        due(worth("7 % (0 - 4)"), 3);
        due(worth("7 / 0 + 5 % 0 + 1"), 1);
        due(worth("least [ 3 , words ] * most[2,first]"), 9);
        due(worth("least[most[1,2],most[3,4]]"), 2);
        // 996005996001 wraps to -426416671
        due(worth("999*999*999*999"), 0);
        due(worth("(0-999*999*999*999)/999/999/99"), 4);
        // the least number of 32 bits, by -1
        due(worth("512*512*512*16/(0-1)+512*512*512*16+5"), 5);
        due(worth("512*512*512*16%(0-1)+5"), 5);
        due(worth(" 7 "), 7);
        due(worth("0007"), 7);
        due(worth("((((((7))))))"), 7);
        due(worth("least[(most[(least[(7),9]),1]),60]"), 7);
        // as many values wait as can: of a sum, a product and a pair at each of six levels, and within
        due(worth(times(6, "9-1*most[1,") + "9-1*2" + times(6, "]")), 7);
        faulty(law("(((((((7)))))))"), 3, 6);
        faulty(law("((((((least[1,2]))))))"), 3, 6);
        faulty(law("((((((  most"), 3, 8);
        faulty(law("((((((mist"), 1, 6);
        due(worth("((((((1))))))+((((((2))))))"), 3);
        faulty(law(""), 1, 0);
        faulty(law("   "), 1, 3);
        faulty(law("1000"), 2, 0);
        faulty(law("1 2"), 1, 2);
        faulty(law("-1"), 1, 0);
        faulty(law("words + "), 1, 8);
        faulty(law("least(1,2)"), 1, 5);
        faulty(law("least[1;2]"), 1, 7);
        faulty(law("least[1,2"), 1, 9);
        faulty(law("(1"), 1, 2);
        faulty(law("1)"), 1, 1);
        faulty(law("again"), 1, 0);
        faulty(law("1;"), 1, 1);
        due(x.would(4, 2, 3, 5, 40, 190, 20), 3);
        due(law("1" + times(74, "+1") + " "), 1);
        due(x.would(1, 0, 0, 0, 0, 0, 0), 60);
        put(times(160, "1"));
        refused(ILLEGAL, () -> x.law(151));
        refused(ILLEGAL, () -> x.law(-1));
        due(x.count(1), 160);
        faulty(x.law(150), 2, 0);
        due(x.count(1), 0);
        refused(ILLEGAL, () -> x.law(1));
        x.image();
        due(law("5"), 1);
        x.restore();
        due(x.cost(0, 0, 0), 5);

        of(14);
        fresh("line 1 2 3 4;line 5 6;cell 0 3;ink 50;");
        due(x.cost(0, 0, 3), 3);
        due(x.cost(0, 2, 2), 1);
        work("strike 0 1 2;");
        due(law("words*10+struck"), 1);
        due(x.cost(0, 0, 2), 32);
        due(x.cost(0, 0, 0), 10);
        due(law("first*10+line"), 1);
        due(x.cost(1, 1, 1), 11);
        due(law("left*10+cell"), 1);
        due(x.cost(0, 0, 0), 43);
        due(law("ink"), 1);
        due(x.cost(0, 0, 0), 48);
        refused(NO_SUCH, () -> x.cost(2, 0, 0));
        refused(NO_SUCH, () -> x.cost(-1, 0, 0));
        refused(NO_SUCH, () -> x.cost(0, 0, 4));
        refused(NO_SUCH, () -> x.cost(0, 4, 0));
        refused(NO_SUCH, () -> x.cost(0, -1, 0));
        refused(ILLEGAL, () -> x.cost(0, 1, 0));

        of(15);
        x = new StruckPage();
        due(x.would(1, 0, 0, 0, 0, 0, 0), 1);
        due(x.would(8, 8, 7, 5, 48, 200, 999), 5);
        refused(ILLEGAL, () -> x.would(0, 0, 0, 0, 0, 0, 0));
        refused(ILLEGAL, () -> x.would(9, 0, 0, 0, 0, 0, 0));
        refused(ILLEGAL, () -> x.would(1, 9, 0, 0, 0, 0, 0));
        refused(ILLEGAL, () -> x.would(1, -1, 0, 0, 0, 0, 0));
        refused(ILLEGAL, () -> x.would(1, 0, 8, 0, 0, 0, 0));
        refused(ILLEGAL, () -> x.would(1, 0, -1, 0, 0, 0, 0));
        refused(ILLEGAL, () -> x.would(1, 0, 0, 6, 0, 0, 0));
        refused(ILLEGAL, () -> x.would(1, 0, 0, -1, 0, 0, 0));
        refused(ILLEGAL, () -> x.would(1, 0, 0, 0, 49, 0, 0));
        refused(ILLEGAL, () -> x.would(1, 0, 0, 0, -1, 0, 0));
        refused(ILLEGAL, () -> x.would(1, 0, 0, 0, 0, 201, 0));
        refused(ILLEGAL, () -> x.would(1, 0, 0, 0, 0, -1, 0));
        refused(ILLEGAL, () -> x.would(1, 0, 0, 0, 0, 0, 1000));
        refused(ILLEGAL, () -> x.would(1, 0, 0, 0, 0, 0, -1));
    }

    private static void works() {
        of(5);
        fresh("line 8 8 8;line 0;ink 3;");
        due(work("strike 0 0 1;"), 1);
        due(x.told(3), 1);
        due(x.line(0, 2), 3);
        // one of these is given back, one is struck; this one costs all of the ink
        law("1");
        due(work("strike 0 1 2;strike 0 0 0;"), 1);
        due(x.line(0, 2), 5);
        due(x.told(9), 1);
        due(x.told(3), 0);
        due(x.told(4), 2);
        due(work("fill 99;fill 99;fill 1;fill 2;fill 1;"), 4);
        due(x.told(3), 200);
        due(work("strike 0 2 1;strike 0 0 3;strike 1 1 1;"), 0);
        due(x.told(9), 3);
        due(work("wipe;wipe;"), 1);
        due(x.told(2), 4);
        due(work("set 3 999;set 3 999;set 3 0;set 2 0;"), 2);
        due(x.told(9), 2);
        due(work("begin;run 1;begin;begin;run 2;run 1;"), 3);
        due(x.told(9), 3);
        due(work("again 3[again 0[wipe;];set 0 7;set 0 8;];"), 6);
        due(work("again 0[run 1;];"), 0);
        due(x.told(9), 0);
        due(work(""), 0);
        due(work("  again 2 [ ] ; "), 0);
        due(x.count(2), 11);
        // a step and an again, 39 rounds of two agains and three steps, and three more: 200 are begun
        due(work("set 0 0;again 60[again 1[set 0 1;];again 1[set 0 2;set 0 0;];];"), 119);
        due(x.cell(0), 1);
        due(x.told(9), 0);
        // 60 times an again that is come to counts, too
        due(work("again 60[again 9[];];again 60[again 9[];];again 60[again 9[];];again 60[];set 0 5;"), 1);
        due(work("again 60[again 9[];];again 60[again 9[];];again 60[again 9[];];"
            + "again 14[again 9[];];set 0 6;set 0 9;"), 2);
        due(x.cell(0), 9);
        due(work("again 60[again 9[];];again 60[again 9[];];again 60[again 9[];];"
            + "again 15[again 9[];];set 0 7;set 0 8;"), 1);
        due(x.cell(0), 7);

        of(5);
        fresh("line 1 2;line 3;");
        faulty(work("strike 2 0 0;"), 2, 7);
        faulty(work("strike 0 8 0;"), 2, 9);
        faulty(work("strike 0 0 8;"), 2, 11);
        faulty(work("strike 0 0;"), 1, 10);
        faulty(work("run 100;"), 2, 4);
        faulty(work("fill 100;"), 2, 5);
        faulty(work("set 0 1000;"), 2, 6);
        faulty(work("set 4 1000;"), 2, 4);
        faulty(work("again 61["), 2, 6);
        faulty(work("again 1 run"), 1, 8);
        faulty(work("again 1[wipe]"), 1, 12);
        faulty(work("again 1[wipe;"), 1, 13);
        faulty(work("again 1[]"), 1, 9);
        faulty(work("again 1[wipe;;]"), 1, 13);
        faulty(work("];"), 1, 0);
        faulty(work("wipe;wipe"), 1, 9);
        faulty(work("wipe 1;"), 1, 5);
        faulty(work("stroke"), 1, 0);
        faulty(work("5"), 1, 0);
        due(work("again 1[again 1[again 1[again 1[again 1[again 1[set 0 1;];];];];];];"), 1);
        faulty(work("again 1[again 1[again 1[again 1[again 1[again 1[ again 1[set 0 1;];];];];];];];"), 3, 49);
        faulty(work("again 1[again 1[again 1[again 1[again 1[again 1[ agains"), 1, 49);
        due(x.count(2), 1);
        due(x.told(9), 0);
        due(work("strike 0 1 0;"), 0);
        due(x.told(9), 1);
        faulty(work("x"), 1, 0);
        due(x.told(9), 1);
        for (int i = 2; i < 16; i++) {
            due(x.work(0), 0);
        }
        due(work("strike 0 1 0;"), -20);
        due(x.fault(), NONE);
        due(x.count(1), 0);
        put("zzz");
        due(x.work(3), -20);
        due(x.fault(), NONE);
        refused(ILLEGAL, () -> x.work(1));
        put(times(160, " "));
        refused(ILLEGAL, () -> x.work(151));
        refused(ILLEGAL, () -> x.work(-1));
        due(x.count(1), 160);
        due(x.undo(), 15);
        due(x.work(150), 0);
        due(x.count(2), 16);
        x.undo();
        due(work(times(30, "wipe;")), 0);
        due(x.told(9), 30);
        x.undo();
        due(work(times(10, "set0 0;set0 1;") + times(10, " ")), 20);
    }

    private static void sentences() {
        of(6);
        fresh("line 1 2;");
        due(sentence("0;15; 7 ;  "), 3);
        due(x.told(8), 3);
        due(sentence(times(12, "1;") + " "), 12);
        faulty(sentence(times(12, "1;") + " 1;"), 3, 25);
        faulty(sentence(times(12, "1;") + "16;"), 2, 24);
        faulty(sentence(times(12, "1;") + "x"), 1, 24);
        faulty(sentence("1;2"), 1, 3);
        faulty(sentence("1 2;"), 1, 2);
        faulty(sentence(";"), 1, 0);
        faulty(sentence("one;"), 1, 0);
        due(x.told(8), 12);
        put(times(80, " "));
        refused(ILLEGAL, () -> x.sentence(61));
        refused(ILLEGAL, () -> x.sentence(-1));
        due(x.sentence(60), 0);
        due(x.told(8), 0);
    }

    private static void undoAndImages() {
        of(8);
        fresh("line 8 9 1;line 10;cell 1 4;ink 100;");
        due(work("strike 0 0 1;run 1;set 1 7;strike 0 7 7;"), 3);
        due(work(""), 0);
        due(work("begin;wipe;fill 9;run 2;begin;begin;"), 5);
        due(x.told(9), 1);
        due(x.undo(), 2);
        due(x.told(9), 0);
        due(x.told(3), 98);
        due(x.told(5), 1);
        due(x.told(6), 1);
        due(x.line(0, 2), 3);
        due(x.undo(), 1);
        due(x.undo(), 0);
        due(x.told(3), 100);
        due(x.told(4), 0);
        due(x.told(5), 0);
        due(x.told(6), 0);
        due(x.told(2), 4);
        due(x.cell(1), 4);
        work("wipe;");
        due(x.told(9), 1);
        due(x.undo(), 0);
        due(x.told(9), 0);
        x.undo();
        due(x.undo(), -1);

        of(37);
        fresh("line 8 9 1;line 10;");
        work("strike 0 0 0;wipe;wipe;");
        due(x.image(), 1);
        due(x.told(9), 1);
        work("strike 0 1 1;run 1;set 3 5;");
        due(x.image(), 2);
        x.undo();
        x.undo();
        work("strike 1 0 0;wipe;wipe;");
        due(x.image(), 3);
        due(x.image(), -1);
        due(x.count(0), 3);
        due(x.told(9), 1);

        of(38);
        sentence("8;");
        law("7");
        due(x.restore(), 2);
        due(x.told(9), 0);
        due(x.told(8), 1);
        due(x.cost(0, 0, 0), 7);
        due(x.count(2), 1);
        due(x.restore(), 1);
        due(x.line(0, 2), 2);
        due(x.cell(3), 5);
        due(x.told(5), 1);
        due(x.told(6), 1);
        due(x.count(2), 2);
        due(x.undo(), 1);
        due(x.line(0, 2), 0);
        due(x.told(6), 0);
        due(x.told(4), 1);
        due(x.restore(), 0);
        due(x.count(2), 1);
        due(x.restore(), -1);
        due(x.undo(), 0);
        due(x.told(4), 0);

        of(27);
        fresh("line 1 2 3 4 5 6 7 8;line 9 9;");
        due(x.apart(), NONE);
        of(28);
        due(x.mends(), NONE);
        work("strike 0 0 0;");
        x.image();
        work("set 0 9;run 1;");
        of(27);
        due(x.apart(), 0);
        of(28);
        due(x.mends(), 0);
        work("strike 0 0 2;strike 0 4 5;strike 0 7 7;strike 1 0 1;");
        of(27);
        due(x.apart(), 8);
        of(28);
        due(x.mends(), 4);
        x.image();
        due(x.mends(), 0);
        of(27);
        due(x.apart(), 0);
        x.restore();
        x.restore();
        due(x.apart(), NONE);
    }

    private static void tellings() {
        of(9);
        fresh("line 8 9 10;line 11;line 12 12;cell 0 5;cell 3 6;ink 33;");
        work("strike 0 0 0;strike 1 0 0;strike 1 1 1;run 1;");
        sentence("1;2;3;");
        int[] told = {3, 6, 4, 31, 2, 1, 1, 12, 3, 1, 2};
        for (int what = 0; what < told.length; what++) {
            due(x.told(what), told[what]);
        }
        refused(ILLEGAL, () -> x.told(11));
        refused(ILLEGAL, () -> x.told(-1));

        of(10);
        int[] zero = {3, 2, 1, 9, 19};
        int[] one = {1, 0, 1, NONE, 0};
        for (int what = 0; what < 5; what++) {
            due(x.line(0, what), zero[what]);
            due(x.line(1, what), one[what]);
        }
        refused(NO_SUCH, () -> x.line(3, 0));
        refused(NO_SUCH, () -> x.line(-1, 9));
        refused(ILLEGAL, () -> x.line(0, 5));
        refused(ILLEGAL, () -> x.line(0, -1));

        of(11);
        due(x.word(0, 0, 0), 8);
        due(x.word(0, 0, 1), 1);
        due(x.word(0, 2, 0), 10);
        due(x.word(0, 2, 1), 0);
        refused(NO_SUCH, () -> x.word(3, 0, 0));
        refused(NO_SUCH, () -> x.word(0, 3, 2));
        refused(NO_SUCH, () -> x.word(0, -1, 0));
        refused(ILLEGAL, () -> x.word(0, 0, 2));
        refused(ILLEGAL, () -> x.word(0, 0, -1));

        of(12);
        due(x.reads(0), 9);
        due(x.reads(1), 10);
        due(x.reads(2), 12);
        due(x.reads(3), 12);
        due(x.reads(4), NONE);
        due(x.reads(Integer.MAX_VALUE), NONE);
        refused(ILLEGAL, () -> x.reads(-1));

        of(13);
        due(x.cell(0), 5);
        due(x.cell(1), 1);
        due(x.cell(3), 6);
        refused(ILLEGAL, () -> x.cell(4));
        refused(ILLEGAL, () -> x.cell(-1));

        of(32);
        due(x.often(0), 12);
        due(x.often(1), 2);
        work("strike 2 0 0;");
        due(x.often(0), 9);
        due(x.often(1), 1);
        refused(ILLEGAL, () -> x.often(2));
        refused(ILLEGAL, () -> x.often(-1));
        work("wipe;strike 0 0 2;strike 1 0 0;strike 2 0 1;");
        due(x.often(0), NONE);
        due(x.often(1), NONE);

        of(33);
        due(x.deeds(8), 0);
        work("wipe;");
        due(x.deeds(8), 1);
        due(x.deeds(12), 4);
        due(x.deeds(9), 0);
        work("strike 0 0 0;");
        due(x.deeds(9), 1);
        refused(ILLEGAL, () -> x.deeds(16));
        refused(ILLEGAL, () -> x.deeds(-1));

        of(34);
        due(x.longest(0), 0);
        due(x.longest(1), 2);
        work("strike 0 1 1;");
        due(x.longest(0), 2);
        due(x.longest(1), 2);
        work("strike 0 2 2;strike 1 0 0;strike 2 0 1;");
        due(x.longest(0), 0);
        due(x.longest(1), 0);
        refused(ILLEGAL, () -> x.longest(2));
        refused(ILLEGAL, () -> x.longest(-1));
        x.page(0);
        due(x.longest(0), NONE);
        due(x.longest(1), NONE);
    }

    private static void deedsOfTheRun() {
        of(5);
        fresh("line 0 1 1;line 1 6 9;line 2 1 15;line 3 5 6;line 15;cell 1 9;");
        work("run 1;");
        cells(0, 9, 0, 0);
        work("run 1;");
        cells(0, 9, 9, 0);
        work("run 1;");
        cells(0, 0, 9, 0);
        work("run 1;");
        cells(0, 9, 9, 0);
        work("run 9;");
        cells(0, 9, 9, 1);
        due(x.told(5), 5);
        due(x.told(6), 5);
        due(work("run 9;"), 0);
        due(x.told(9), 1);

        fresh("line 1 0 15;line 9;line 5 0;");
        work("set 0 990;set 1 999;run 2;");
        cells(999, 999, 0, 0);
        // what is not there counts 0: "1" alone puts 0 more in cell 0, "5" alone goes to line 0
        fresh("line 1;line 5;");
        due(x.ends(), NONE);
        work("run 3;");
        due(x.told(5), 1);
        due(x.told(7), 0);

        fresh("line 4 0 2;line 8;line 4 0 9;line 8;cell 0 1;");
        work("run 1;");
        due(x.told(5), 1);
        work("set 0 0;begin;run 1;");
        due(x.told(5), 2);
        work("run 1;");
        due(x.told(5), 4);
        fresh("line 5 1;line 5 2;");
        work("run 1;");
        due(x.told(5), 1);
        work("run 1;");
        due(x.told(5), 2);
        fresh("line 7;line 8;");
        work("run 5;");
        due(x.told(5), 2);
        due(x.told(6), 1);
        // a deed strikes, gives back, and is no stroke; on no such word it does nothing
        fresh("line 6 1 0;line 8;line 6 1 1;line 6 9 0;line 5 0;ink 0;");
        work("run 4;");
        due(x.line(1, 2), 1);
        due(x.told(4), 0);
        due(x.told(7), 0);
        due(x.told(6), 4);
        due(x.told(5), 0);
        work("run 1;");
        due(x.line(1, 2), 0);
        work("run 1;");
        due(x.told(7), 1);
        // a line strikes on itself: its first word goes, then "1 0 5" is done
        fresh("line 6 0 0 1 0 5;line 5 0;");
        work("run 2;");
        due(x.line(0, 2), 1);
        due(x.told(5), 0);
        // now "0 0 1 0 5" is left: nothing
        work("run 1;");
        due(x.line(0, 2), 1);
        // begin counts where the run is, not what is left there; a run may be over without a deed
        fresh("line 1 1;line 2 2;");
        work("strike 0 0 1;strike 1 0 1;");
        due(work("begin;"), 0);
        due(x.told(5), 0);
        due(work("run 1;run 1;begin;"), 2);
        due(x.told(9), 1);
        due(x.told(6), 0);
    }

    private static void ahead() {
        of(16);
        fresh("line 8;line 1 1 5;line 6 0 0;line 9;ink 9;");
        due(x.ahead(0, 0), 0);
        due(x.ahead(1, 0), 1);
        due(x.ahead(1, 1), 1);
        due(x.ahead(2, 1), 6);
        due(x.ahead(2, 2), 8);
        due(x.ahead(3, 2), 7);
        due(x.ahead(4, 0), 4);
        due(x.ahead(999, 1), 7);
        due(x.told(5), 0);
        due(x.told(7), 0);
        due(x.told(6), 0);
        refused(ILLEGAL, () -> x.ahead(1000, 0));
        refused(ILLEGAL, () -> x.ahead(-1, 0));
        refused(ILLEGAL, () -> x.ahead(0, 3));
        refused(ILLEGAL, () -> x.ahead(0, -1));
        of(17);
        due(x.ends(), 4);
        due(x.told(6), 0);
        work("strike 3 0 0;");
        due(x.ends(), 3);
        of(16);
        due(x.ahead(3, 0), 3);
        due(x.ahead(4, 0), 4);
        of(17);
        work("run 3;");
        due(x.told(5), 3);
        due(x.ends(), 0);
        work("run 3;");
        due(x.ends(), 0);
        // a loop that counts cell 0 down, three deeds a round: set so that it ends at, and just behind, 999
        fresh("line 4 0 9;line 2 0 1;line 5 0;");
        work("set 0 332;");
        due(x.ends(), 997);
        work("set 0 333;");
        due(x.ends(), NONE);
        fresh("line 0;line 4 0 9;line 2 0 1;line 5 1;line 0;");
        work("set 0 332;");
        due(x.ends(), 998);
        fresh("line 0;line 0;line 4 0 9;line 2 0 1;line 5 2;line 0;");
        work("set 0 332;");
        due(x.ends(), 999);
        of(16);
        due(x.ahead(999, 0), 6);
        due(x.ahead(998, 0), 2);
        of(17);
        fresh("line 0;line 0;line 4 0 5;line 2 0 1;line 5 2;line 7;");
        work("set 0 332;");
        due(x.ends(), NONE);
        work("strike 5 0 0;");
        due(x.ends(), 999);
    }

    private static void sayings() {
        of(18);
        fresh("line 1 2 1;line 2 1;");
        due(x.says(), false);
        sentence("1;2;1;2;1;");
        due(x.says(), true);
        work("strike 0 0 1;");
        due(x.says(), false);
        sentence("1;2;1;");
        due(x.says(), true);
        sentence("1;2;");
        due(x.says(), false);

        of(19);
        due(x.ways(), 3);
        sentence("1;2;1;");
        due(x.ways(), 4);
        sentence("3;");
        due(x.ways(), 0);
        sentence("");
        due(x.ways(), 1);
        of(20);
        sentence("3;");
        due(x.strokes(), NONE);
        of(21);
        due(x.best(), 0);
        // struck now: words 0, 1 of line 0; "2 1" is said by giving word 1 back, and striking line 1, ..
        sentence("2;1;");
        of(20);
        due(x.strokes(), 1);
        of(21);
        // .. which is two, by striking word 2 of line 0
        due(x.best(), 1);
        sentence("1;");
        of(20);
        due(x.strokes(), 1);
        of(21);
        // word 2 of line 0 is left alone by striking line 1; the last word alone takes two strokes
        due(x.best(), 1);
        work("strike 1 0 0;");
        // now each of both is one stroke away
        due(x.best(), 2);
        fresh("line 1 2 1 2 1 2 1 2;line 1 2;");
        sentence("1;1;1;1;1;");
        of(20);
        due(x.strokes(), 5);
        of(21);
        due(x.best(), 1);
        sentence("");
        of(20);
        due(x.strokes(), 2);
        fresh(times(6, "line 7 7 7 7 7 7 7 7;"));
        sentence(times(12, "7;"));
        of(19);
        due(x.ways(), 69668534468L);
        of(20);
        due(x.strokes(), 5);

        of(22);
        due(x.unlike(0), 1);
        due(x.unlike(12), 1);
        fresh("line 1 2 1;line 2;");
        due(x.unlike(1), 2);
        due(x.unlike(2), 4);
        due(x.unlike(3), 4);
        due(x.unlike(4), 1);
        due(x.unlike(5), 0);
        work("strike 0 0 2;");
        due(x.unlike(3), 4);
        fresh("line 0 1 2 3 4 5 6 7;line 8 9 10 11 12 13 14 15;line 0 1 2 3 4 5 6 7;");
        due(x.unlike(1), 16);
        due(x.unlike(2), 220);
        refused(ILLEGAL, () -> x.unlike(13));
        refused(ILLEGAL, () -> x.unlike(-1));

        of(23);
        fresh("line 1 1 2;line 1;ink 0;");
        sentence("1;2;1;");
        due(x.forged(0), 2);
        due(x.forged(1), 0);
        sentence("2;1;");
        due(x.forged(0), 1);
        due(x.forged(1), 1);
        sentence("1;1;2;");
        due(x.forged(0), 1);
        due(x.forged(1), 100);
        sentence("1;1;2;1;");
        due(x.forged(0), 0);
        due(x.forged(1), NONE);
        fresh("line 1 2 3;ink 3;");
        work("strike 0 0 1;");
        sentence("1;3;");
        due(x.forged(1), 0);
        sentence("1;2;3;");
        due(x.forged(1), 1);
        sentence("2;");
        // words 1 and 2: the one is given back, the other one struck
        due(x.forged(1), 12);
        due(x.told(3), 1);
        due(x.line(0, 2), 3);
        refused(ILLEGAL, () -> x.forged(2));
        refused(ILLEGAL, () -> x.forged(-1));
    }

    private static void games() {
        of(24);
        int[] values = {0, 1, 2, 3, 1, 4, 3, 2, 1};
        for (int n = 1; n <= 8; n++) {
            fresh("line" + times(n, " 5") + ";");
            due(x.value(0), values[n]);
        }
        work("strike 0 2 2;");
        due(x.value(0), 2 ^ 4);
        work("strike 0 0 7;");
        due(x.value(0), 1);
        refused(NO_SUCH, () -> x.value(1));
        refused(NO_SUCH, () -> x.value(-1));

        of(25);
        fresh("line 1 1 1 1 1;line 2 2;line 3;line 4 4 4 4;");
        due(x.argument(0, 0), 0);
        due(x.argument(0, 1), NONE);
        due(x.argument(1, 0), 4);
        due(x.argument(3, 0), 6);
        due(x.argument(15, 0), 4 ^ 2 ^ 1 ^ 1);
        due(x.argument(12, 0), 0);
        due(x.argument(12, 1), NONE);
        // five in a row are halved by the middle one
        due(x.argument(1, 1), 22);
        // 2 and 1: one of the two is struck
        due(x.argument(6, 1), 100);
        due(x.argument(2, 1), 101);
        due(x.argument(4, 1), 200);
        work("strike 0 1 1;");
        // "1" and "1 1 1": 1 and 3; one more than the one is struck of the three
        due(x.argument(1, 0), 2);
        due(x.argument(1, 1), 23);
        refused(ILLEGAL, () -> x.argument(16, 0));
        refused(ILLEGAL, () -> x.argument(-1, 0));
        refused(ILLEGAL, () -> x.argument(0, 2));
        refused(ILLEGAL, () -> x.argument(0, -1));

        of(26);
        fresh("line 1 2 3 4 5;line 2 9 4 1 5;line 5 4 3 2 1;line 6;");
        due(x.common(0, 1), 3);
        due(x.common(1, 0), 3);
        due(x.common(0, 2), 1);
        due(x.common(0, 3), 0);
        due(x.common(0, 0), 5);
        work("strike 1 2 2;strike 0 0 0;");
        due(x.common(0, 1), 2);
        due(x.common(0, 0), 4);
        refused(NO_SUCH, () -> x.common(0, 4));
        refused(NO_SUCH, () -> x.common(4, 0));
        refused(NO_SUCH, () -> x.common(-1, 0));
        refused(NO_SUCH, () -> x.common(0, -1));

        of(31);
        fresh("line 1;line 1 1 1;line 1 1 1 1 1;line 1 1;");
        work("strike 3 0 1;");
        due(x.share(2, 7, 9), 5);
        due(x.share(2, 7, 8), 4);
        due(x.share(2, 7, 7), 3);
        due(x.share(2, 7, 6), 2);
        due(x.share(2, 7, 5), 2);
        due(x.share(1, 7, 5), 2);
        due(x.share(0, 7, 5), 1);
        due(x.share(0, 7, 2), 0);
        due(x.share(2, 15, 3), 1);
        due(x.share(3, 15, 200), 0);
        due(x.share(2, 4, 200), 5);
        due(x.share(2, 4, 0), 0);
        due(x.share(0, 6, 200), 0);
        due(x.share(0, 0, 200), 0);
        refused(NO_SUCH, () -> x.share(4, 7, 9));
        refused(NO_SUCH, () -> x.share(-1, 99, 201));
        refused(ILLEGAL, () -> x.share(0, 16, 9));
        refused(ILLEGAL, () -> x.share(0, -1, 9));
        refused(ILLEGAL, () -> x.share(0, 7, 201));
        refused(ILLEGAL, () -> x.share(0, 7, -1));
    }

    private static void sums() {
        of(29);
        x = new StruckPage();
        int[][] dues = {{5, 3, 2, 1, 5}, {3, 5, 1, 11, 10}, {0, 0, 4, 0, 0}, {9, 0, 3, 0, 0}, {4, 4, 3, 1, 4},
            {0, 99, 1, 11, 198}, {99, 1, 2, 1, 99}};
        for (int[] d : dues) {
            for (int what = 0; what < 3; what++) {
                due(x.duel(d[0], d[1], what), d[2 + what]);
            }
        }
        refused(ILLEGAL, () -> x.duel(100, 0, 0));
        refused(ILLEGAL, () -> x.duel(-1, 0, 0));
        refused(ILLEGAL, () -> x.duel(0, 100, 0));
        refused(ILLEGAL, () -> x.duel(0, -1, 0));
        refused(ILLEGAL, () -> x.duel(0, 0, 3));
        refused(ILLEGAL, () -> x.duel(0, 0, -1));

        of(30);
        long[][] chances = {{2, 1, 8, 3, 4}, {2, 2, 8, 1, 4}, {0, 0, 5, 1, 1}, {0, 1, 5, 0, 1}, {3, 0, 7, 1, 1},
            {1, 1, 4, 3, 4}, {1, 1, 1, 15, 16}, {5, 5, 0, 1, 1}, {5, 1, 16, 0, 1}, {5, 0, 16, 1, 1},
            {2, 1, 4, 15, 16}, {12, 12, 15, 1, 281474976710656L}, {12, 13, 3, 0, 1}, {3, 2, 12, 5, 32}};
        for (long[] c : chances) {
            due(x.chance((int) c[0], (int) c[1], (int) c[2], 0), c[3]);
            due(x.chance((int) c[0], (int) c[1], (int) c[2], 1), c[4]);
        }
        refused(ILLEGAL, () -> x.chance(13, 0, 0, 0));
        refused(ILLEGAL, () -> x.chance(-1, 0, 0, 0));
        refused(ILLEGAL, () -> x.chance(0, 14, 0, 0));
        refused(ILLEGAL, () -> x.chance(0, -1, 0, 0));
        refused(ILLEGAL, () -> x.chance(0, 0, 17, 0));
        refused(ILLEGAL, () -> x.chance(0, 0, -1, 0));
        refused(ILLEGAL, () -> x.chance(0, 0, 0, 2));
        refused(ILLEGAL, () -> x.chance(0, 0, 0, -1));
    }

    private static void hands() {
        of(35);
        // of one line of one word, each time but one stroke can be made; seed 1 draws by 16: the fourth, eighth, ..
        fresh("line 8;ink 5;");
        due(x.hand(1, 1, 0, 0), 0);
        due(x.hand(1, 1, 0, 1), 4);
        due(x.hand(1, 1, 0, 2), 1);
        due(x.hand(1, 2, 0, 0), 1);
        due(x.hand(1, 9, 0, 0), 0);
        due(x.hand(1, 9, 0, 1), 0);
        due(x.hand(1, 9, 0, 2), 5);
        // struck: the run is over without a deed; given back: it is over already, so it begins; struck: over again, ..
        due(x.hand(1, 2, 16, 3), 0);
        due(x.hand(1, 4, 16, 3), 0);
        // without ink to strike, run and begin go by turns
        fresh("line 8;ink 0;");
        due(x.hand(1, 1, 16, 3), 1);
        due(x.hand(1, 2, 16, 3), 1);
        due(x.hand(1, 3, 16, 3), 2);
        due(x.hand(1, 96, 16, 3), 48);
        due(x.hand(1, 96, 0, 3), 0);
        due(x.told(5), 0);
        due(x.told(7), 0);
        // the seed 1 becomes 1103527590, bits 16 to 30 of it 16838; then 2524885223 (38526, of which 5758), ..
        fresh("line 1 2 3 4 5;line 1 2 3 4 5 6 7;");
        long seed = 1;
        int[] drawn = new int[4];
        for (int i = 0; i < 4; i++) {
            seed = (seed * 1103515245L + 12345L) % (1L << 32);
            drawn[i] = (int) (seed >> 16 & 0x7fff);
        }
        due(drawn[0], 16838);
        due(drawn[1], 5758);
        int words = drawn[0] % 2 == 0 ? 5 : 7;
        int over = Math.abs(drawn[1] % words - drawn[2] % words) + 1;
        due(x.hand(1, 1, 0, 0), 12 - over);
        due(x.hand(1, 1, 0, 1), 60 - 1 - over / 2);
        due(x.hand(1, 1, 0, 2), 1);
        due(x.hand(-1, 96, 16, 2) >= 0 ? 1 : 0, 1);
        refused(ILLEGAL, () -> x.hand(0, 0, 0, 0));
        refused(ILLEGAL, () -> x.hand(0, 97, 0, 0));
        refused(ILLEGAL, () -> x.hand(0, 1, 17, 0));
        refused(ILLEGAL, () -> x.hand(0, 1, -1, 0));
        refused(ILLEGAL, () -> x.hand(0, 1, 0, 4));
        refused(ILLEGAL, () -> x.hand(0, 1, 0, -1));
        work("strike 0 0 0;");
        due(x.hand(1, 1, 0, 2), 1);

        of(36);
        int fewest = 99;
        int most = -1;
        for (int i = 0; i < 20; i++) {
            fewest = Math.min(fewest, x.hand(Integer.MAX_VALUE - 3 + i, 9, 5, 0));
            most = Math.max(most, x.hand(Integer.MAX_VALUE - 3 + i, 9, 5, 0));
        }
        due(x.span(Integer.MAX_VALUE - 3, 20, 9, 5, 0, 1), fewest);
        due(x.span(Integer.MAX_VALUE - 3, 20, 9, 5, 1, 1), most);
        due(fewest < most ? 1 : 0, 1);
        refused(ILLEGAL, () -> x.span(0, 0, 1, 0, 0, 0));
        refused(ILLEGAL, () -> x.span(0, 21, 1, 0, 0, 0));
        refused(ILLEGAL, () -> x.span(0, 1, 0, 0, 0, 0));
        refused(ILLEGAL, () -> x.span(0, 1, 97, 0, 0, 0));
        refused(ILLEGAL, () -> x.span(0, 1, 1, 17, 0, 0));
        refused(ILLEGAL, () -> x.span(0, 1, 1, -1, 0, 0));
        refused(ILLEGAL, () -> x.span(0, 1, 1, 0, 3, 0));
        refused(ILLEGAL, () -> x.span(0, 1, 1, 0, -1, 0));
        refused(ILLEGAL, () -> x.span(0, 1, 1, 0, 0, 2));
        refused(ILLEGAL, () -> x.span(0, 1, 1, 0, 1, -1));
        fresh("line 8;line 9 9;ink 0;");
        work("fill 1;strike 0 0 0;");
        due(x.span(7, 20, 9, 5, 2, 0), 20);
        due(x.span(7, 20, 9, 5, 2, 1), 0);
        due(x.span(7, 20, 9, 5, 0, 1), 2);
    }

    private static void counts() {
        of(39);
        x = new StruckPage();
        refused(ILLEGAL, () -> x.told(99));
        refused(NO_SUCH, () -> x.value(0));
        refused(NO_SUCH, () -> x.line(0, 99));
        due(x.status(0), 2);
        due(x.status(1), 1);
        due(x.status(2), NONE);
        due(x.status(-1), NONE);
        x.image();
        refused(ILLEGAL, () -> x.told(99));
        x.restore();
        due(x.status(1), 2);
        page("line 1;");
        due(x.status(0), 2);
        due(x.status(1), 2);

        of(40);
        due(x.count(0), 0);
        due(x.count(1), 0);
        due(x.count(2), 0);
        due(x.count(3), NONE);
        due(x.count(-1), NONE);
        x.work(0);
        x.work(0);
        x.image();
        put("x");
        due(x.count(0), 1);
        due(x.count(1), 20);
        due(x.count(2), 2);
    }
}
