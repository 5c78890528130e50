/** The sentences of the document that name a boundary of a text: what stands on the tape, and how it is read. */
public final class TextEdgesTest extends Bench {
    public static void main(String[] args) throws Exception {
        pages();
        laws();
        pricesByNow();
        values();
        works();
        sentences();
        tokens();
        everyByte();
        kindsOfFaults();
        tooMany();
        tape();
        pageAnswers();
        otherTexts();
        worksThatAreFull();
        placeOfTheFault();
        end(args);
    }

    // ---- in these texts a bar stands ahead of the byte at which the fault is due ----

    private static void badPage(int kind, String barred) {
        faulty(page(barred.replace("|", "")), kind, barred.indexOf('|'));
    }

    private static void badLaw(int kind, String barred) {
        faulty(law(barred.replace("|", "")), kind, barred.indexOf('|'));
    }

    private static void badWork(int kind, String barred) {
        faulty(work(barred.replace("|", "")), kind, barred.indexOf('|'));
    }

    private static void badSentence(int kind, String barred) {
        faulty(sentence(barred.replace("|", "")), kind, barred.indexOf('|'));
    }

    private static int worth(String text) {
        due(law(text), 1);
        return x.would(4, 2, 3, 5, 40, 190, 20);
    }

    /** Head and tail with blanks between, so that all of it has so many bytes. */
    private static String stretched(String head, String tail, int bytes) {
        return head + times(bytes - head.length() - tail.length(), " ") + tail;
    }

    // ---- the four texts ----

    private static void pages() {
        says("A PAGE is a text of up to 600 bytes: { CLAUSE \";\" }, at most 60.");
        bare();
        due(page(stretched("line 1 2;", "ink 7;", 600)), 2);
        due(x.told(3), 7);
        faulty(page(stretched("line 1 2;", "ink 7:", 600)), 1, 599);
        faulty(page(stretched("line 1 2;", "ink 77", 600)), 1, 600);
        due(page(""), 0);
        due(x.told(0), 0);
        due(page(times(59, "ink1;") + "line 4 5;"), 2);
        due(page(times(59, "ink1;") + "ink 9;" + times(9, " ")), 0);
        due(x.told(3), 9);
        badPage(3, times(60, "ink1;") + " |ink 9;");
        badPage(1, "|;");

        says("CLAUSE: \"line\" W { W } (LINES, numbered from 0 on, 6 at most: 1 to 8 WORDS, 0 to 15 each, numbered from"
            + " 0 on)");
        bare();
        due(page("line 7 1 1 1 1 1 1 1;" + times(4, "line 1 1 1 1 1 1 1 1;") + "line 1 1 1 1 1 1 1 9;"), 48);
        due(x.told(0), 6);
        due(x.word(0, 0, 0), 7);
        due(x.word(5, 7, 0), 9);
        refused(NO_SUCH, () -> x.word(0, 8, 0));
        refused(NO_SUCH, () -> x.word(6, 0, 0));
        badPage(3, times(6, "line 1;") + "|line 1;");
        badPage(1, "line|;");
        badPage(3, "line 1 2 3 4 5 6 7 8 |9;");
        due(page("line 0 15;line 15;"), 3);
        due(x.word(0, 0, 0), 0);
        due(x.word(0, 1, 0), 15);
        due(x.line(1, 0), 1);
        badPage(2, "line |16;");
        badPage(2, "line 0 |16;");
        badPage(1, "line |-1;");

        says("\"cell\" C N (in CELL C, 0 to 3, there are N, 0 to 99; 0 without; of one C the last counts)");
        fresh("cell 0 99;cell 3 98;");
        cells(99, 0, 0, 98);
        due(page("cell 1 5;cell 2 6;cell 1 0;cell 2 7;"), 0);
        cells(0, 0, 7, 0);
        due(page(""), 0);
        cells(0, 0, 0, 0);
        badPage(2, "cell |4 0;");
        badPage(2, "cell 3 |100;");
        badPage(1, "cell |;");
        badPage(1, "cell 3|;");
        badPage(1, "cell 3 9 |9;");

        says("or \"ink\" N (0 to 200; 60 without; the last counts).");
        fresh("ink 200;");
        due(x.told(3), 200);
        due(page("ink 5;line 1;ink 0;"), 1);
        due(x.told(3), 0);
        due(page("line 1;"), 1);
        due(x.told(3), 60);
        badPage(2, "ink |201;");
        badPage(1, "ink|;");
        badPage(1, "ink 1 |1;");
        due(x.told(3), 60);
    }

    private static void laws() {
        says("A LAW is a text of up to 150 bytes: E, at the end nothing more; without: 1 + words / 2.");
        bare();
        for (int words = 1; words <= 8; words++) {
            due(x.would(words, 8, 7, 5, 48, 200, 999), 1 + words / 2);
        }
        due(worth("9" + times(73, "+0") + "+12"), 21);
        put(times(160, "1"));
        refused(ILLEGAL, () -> x.law(151));
        x.law(0);
        badLaw(1, "1 |2");
        badLaw(1, "1|)");
        badLaw(1, "1|;");
        badLaw(1, "1|]");
        badLaw(1, "1|,1");
        badLaw(1, "words |words");
        badLaw(1, "|");
        badLaw(1, "  |");
        due(x.would(4, 2, 3, 5, 40, 190, 20), 21);

        says("COST of a stroke: what comes out, 0 at least, 60 at most.");
        bare();
        due(worth("0-1"), 0);
        due(worth("0-999*999"), 0);
        due(worth("0"), 0);
        due(worth("1"), 1);
        due(worth("59"), 59);
        due(worth("60"), 60);
        due(worth("61"), 60);
        due(worth("999*999"), 60);
        fresh("line 1 2;ink 61;");
        law("999");
        due(x.cost(0, 0, 0), 60);
        due(work("strike 0 0 0;strike 0 0 0;"), 1);
        due(x.told(3), 1);
        law("0-9");
        due(x.cost(0, 0, 0), 0);
        due(work("strike 0 0 0;"), 1);
        due(x.told(3), 1);

        says("E: T { + or - T }. T: U { * or / or % U }.");
        bare();
        due(worth("30-10-5+2"), 17);
        due(worth("2+3*4-1"), 13);
        due(worth("48/4/2*3"), 18);
        due(worth("47%10*5"), 35);
        due(worth("5*47%10"), 5);
        badLaw(1, "1+|");
        badLaw(1, "1*|");
        badLaw(1, "|+1");
        badLaw(1, "|-1");
        badLaw(1, "1+|*2");
        badLaw(1, "1-|-1");
        badLaw(1, "2*|/2");

        says("U: N (0 to 999), \"words\" (over how many WORDS it goes)");
        due(worth("0+words"), 4);
        due(worth("999-950"), 49);
        badLaw(2, "|1000");
        badLaw(2, "1+|1000");
        due(worth("words"), 4);
        // each name as the third that waits for what is done with it
        due(worth("1+2*words"), 9);
        due(worth("1+2*struck"), 5);
        due(worth("1+2*first"), 7);
        due(worth("1+2*line"), 11);
        due(worth("20-1*left"), 0);
        due(worth("240-1*ink"), 50);
        due(worth("1+2*cell"), 41);
        badLaw(1, "|word");
        badLaw(1, "|wordss");

        says("\"least\" \"[\" E \",\" E \"]\", \"most\" \"[\" E \",\" E \"]\", or \"(\" E \")\".");
        due(worth("least[7,8]"), 7);
        due(worth("least[8,7]"), 7);
        due(worth("least[7,7]"), 7);
        due(worth("least[0-7,5]+9"), 2);
        due(worth("most[7,8]"), 8);
        due(worth("most[8,7]"), 8);
        due(worth("most[7,7]"), 7);
        due(worth("most[0-7,0-8]+9"), 2);
        due(worth("(7)"), 7);
        due(worth("2*(3+4)"), 14);
        badLaw(1, "least|(1,2)");
        badLaw(1, "least[1|]");
        badLaw(1, "least[1|;2]");
        badLaw(1, "least[1,2|)");
        badLaw(1, "least[1,2|,3]");
        badLaw(1, "least[|,2]");
        badLaw(1, "most|");
        badLaw(1, "most[1,2|");
        badLaw(1, "(|)");
        badLaw(1, "(1|]");
        badLaw(1, "(1|");
    }

    private static void pricesByNow() {
        says("\"struck\" (how many of these are struck by now), \"first\" (the number of the first of them), \"line\""
            + " (the number of the LINE), \"left\" (WORDS of the PAGE that are not struck by now), \"ink\" (by now),"
            + " \"cell\" (what is in CELL 0)");
        fresh("line 1 2 3 4 5 6 7 8;line 1 2;cell 0 9;cell 1 3;ink 200;");
        law("struck");
        due(x.cost(0, 0, 7), 0);
        work("strike 0 2 4;");
        due(x.cost(0, 0, 7), 3);
        due(x.cost(0, 4, 7), 1);
        due(x.cost(0, 5, 7), 0);
        due(x.cost(1, 0, 1), 0);
        law("words");
        due(x.cost(0, 0, 7), 8);
        due(x.cost(0, 7, 7), 1);
        law("first");
        due(x.cost(0, 0, 7), 0);
        due(x.cost(0, 7, 7), 7);
        law("line");
        due(x.cost(0, 7, 7), 0);
        due(x.cost(1, 1, 1), 1);
        law("left");
        due(x.cost(1, 1, 1), 7);
        law("cell");
        due(x.cost(1, 1, 1), 9);
        work("set 0 8;");
        due(x.cost(1, 1, 1), 8);
        law("ink-150");
        due(x.cost(1, 1, 1), 50);
        // within one work the second stroke costs by what the first one left: 50 of 200, then 0 of 150
        work("strike 1 1 1;strike 1 1 1;");
        due(x.told(3), 150);
        law("left");
        // 7 are left, then 6
        work("strike 1 0 0;strike 1 1 1;");
        due(x.told(3), 150 - 7 - 6);
        law("struck");
        // none of these is struck, then one is
        work("wipe;strike 1 0 0;strike 1 0 1;");
        due(x.told(3), 137 - 0 - 1);
    }

    private static void values() {
        says("Values are whole numbers of 32 bits that wrap");
        bare();
        // 2147483647 and 1 more are -2147483648, of which 1 less is 2147483647
        String highest = "(512*512*512*16-1)";
        due(worth(highest + "/999/999/99"), 21);
        due(worth(highest + "+1"), 0);
        due(worth("512*512*512*16"), 0);
        due(worth(highest), 60);
        due(worth(highest + "+1-1-" + highest + "+3"), 3);
        due(worth("512*512*512*32+5"), 5);
        due(worth("256*256*256*256*9+6"), 6);

        says("/ cuts, % leaves (with the sign of what is divided), by 0 both are 0.");
        due(worth("7/2"), 3);
        due(worth("(0-7)/2+9"), 6);
        due(worth("7/(0-2)+9"), 6);
        due(worth("(0-7)/(0-2)"), 3);
        due(worth("7%4"), 3);
        due(worth("(0-7)%4+9"), 6);
        due(worth("7%(0-4)"), 3);
        due(worth("(0-7)%(0-4)+9"), 6);
        due(worth("8%4"), 0);
        due(worth("9/0+1"), 1);
        due(worth("9%0+1"), 1);
        due(worth("0/0+1"), 1);
        due(worth("9/(words-words)+2"), 2);
        // the least of all values has no opposite: it wraps to itself
        due(worth("512*512*512*16/(0-1)-512*512*512*16+4"), 4);
        due(worth("512*512*512*16%(0-1)+4"), 4);
    }

    private static void works() {
        says("WORK is a text of up to 150 bytes: { STEP \";\" }.");
        fresh("line 1 2 3 4 5 6 7 8;line 1 2 3 4 5 6 7 8;ink 200;");
        due(work(""), 0);
        due(x.told(9), 0);
        due(work(stretched("set 0 1;", "set 0 2;", 150)), 2);
        due(x.cell(0), 2);
        due(work(times(30, "wipe;")), 0);
        due(x.told(9), 30);
        due(work(times(29, "wipe;") + "run1;"), 1);
        put(stretched("set 0 3;", "", 151));
        refused(ILLEGAL, () -> x.work(151));
        due(x.work(150), 1);
        badWork(1, "wipe|");
        badWork(1, "wipe|,");
        badWork(1, "|;");
        badWork(1, "wipe;|;");

        says("STEP: \"strike\" L I J (L a LINE, I, J 0 to 7), \"run\" N (N 1 to 99), \"begin\", \"fill\" N (N 1 to 99),"
            + " \"wipe\", \"set\" C N (C 0 to 3, N 0 to 999), or \"again\" N \"[\" { STEP \";\" } \"]\" (N 0 to 60).");
        fresh("line 1 2 3 4 5 6 7 8;line 5 0 3 4 5 6 7 8;ink 100;");
        due(work("strike 0 0 7;strike 1 7 7;strike 1 7 0;"), 2);
        badWork(2, "strike |2 0 0;");
        badWork(2, "strike 1 |8 7;");
        badWork(2, "strike 1 0 |8;");
        badWork(1, "strike 0 0|;");
        badWork(1, "strike 0 0 0 |0;");
        due(work("run 1;run 99;"), 2);
        due(x.told(6), 100);
        badWork(2, "run |0;");
        badWork(2, "run |100;");
        badWork(1, "run|;");
        badWork(1, "begin |1;");
        badWork(1, "wipe |1;");
        due(work("fill 1;fill 99;"), 2);
        badWork(2, "fill |0;");
        badWork(2, "fill |100;");
        badWork(1, "fill|;");
        due(work("set 0 999;set 3 1;set 3 0;"), 3);
        cells(999, 0, 0, 0);
        badWork(2, "set |4 0;");
        badWork(2, "set 3 |1000;");
        badWork(1, "set 3|;");
        due(work("again 60[set 1 1;set 1 2;];"), 120);
        due(work("again 0[set 1 7;];"), 0);
        due(work("again 1[];"), 0);
        due(x.cell(1), 2);
        badWork(2, "again |61[];");
        badWork(1, "again |[];");
        badWork(1, "again 1|(];");
        badWork(1, "again 1|;");
        badWork(1, "again 1[wipe|]");
        badWork(1, "again 1[wipe;|");
        badWork(1, "again 1[]|");
        badWork(1, "again 1[];|]");
        fresh("");
        badWork(2, "strike |0 0 0;");
    }

    private static void sentences() {
        says("A SENTENCE is a text of up to 60 bytes: { W \";\" }, at most 12 WORDS, 0 to 15 each.");
        fresh("line 0 15;");
        due(sentence(""), 0);
        due(sentence("0;15;"), 2);
        due(x.says(), true);
        badSentence(2, "|16;");
        badSentence(2, "0;|16;");
        due(x.says(), true);
        due(sentence(times(12, "15; ") + times(12, " ")), 12);
        due(sentence(stretched("7;", "15;", 60)), 2);
        badSentence(3, times(12, "15; ") + "|15;");
        put(times(80, " "));
        refused(ILLEGAL, () -> x.sentence(61));
        due(x.sentence(60), 0);
        badSentence(1, "7|");
        badSentence(1, "7 |7;");
        badSentence(1, "|;");
        badSentence(1, "|-1;");
        badSentence(1, "|line;");
    }

    // ---- how texts are read ----

    private static void tokens() {
        says("Numbers: digits, as many as stand there");
        bare();
        due(page("line 00000000000000015 0000;ink 000000200;"), 2);
        due(x.word(0, 0, 0), 15);
        due(x.told(3), 200);
        badPage(2, "line |00016;");
        badPage(2, "line |4294967297;");
        badPage(2, "line |18446744073709551617;");
        badPage(2, "ink |" + times(590, "9") + ";");
        due(page("cell 01 2;"), 0);
        cells(0, 2, 0, 0);
        badPage(1, "cell 01|;");
        fresh("line 1;");
        badWork(1, "strike 000|;");
        badLaw(2, "|0001000");
        badLaw(2, "|" + times(150, "4"));
        due(worth("0000009"), 9);

        says("words of all these texts: small letters, as many as stand there");
        due(page("line1 2;cell0 9;ink7;"), 2);
        badPage(1, "|lines 1;");
        badPage(1, "|lin e 1;");
        badPage(1, "|lineink 1;");
        badPage(1, "|Line 1;");
        badPage(1, "|linez 1;");
        // not even the first or the last letter may be another one
        badPage(1, "|mine 1;");
        badPage(1, "|lint 1;");
        badPage(1, "|bell 0 1;");
        badPage(1, "|celt 0 1;");
        badPage(1, "|onk 1;");
        badPage(1, "|ina 1;");
        // the word ends with the text, whatever letters stand on the tape behind it
        put("line 1;");
        faulty(x.page(3), 1, 0);
        put("inks 1;");
        faulty(x.page(3), 1, 3);
        badPage(1, "line|X 1;");
        badPage(1, "line|_1;");
        badLaw(1, "|leastmost[1,2]");
        badLaw(1, "|yeast[1,2]");
        badLaw(1, "|post[1,2]");
        badLaw(1, "|cords");
        badLaw(1, "|wordz");
        badWork(1, "|gun 1;");
        badWork(1, "|ripe;");
        badLaw(1, "|wordswords");
        badLaw(1, "words|1");
        badWork(1, "|runs 1;");
        badWork(1, "|wipewipe;");
        due(work("run1;fill1;set0 5;again1[];"), 3);

        says("blanks (32) may stand ahead of all these, and at the end.");
        due(page("   line   1   2   ;   cell   0   5   ;   ink   9   ;   "), 2);
        due(x.told(3), 9);
        due(worth("  ( 2 + words ) * least [ 3 , most [ 1 , 2 ] ]  "), 12);
        due(work("  strike  0  0  0  ;  again  2  [  run  1  ;  ]  ;  "), 2);
        due(sentence("  1  ;  2  ;  "), 2);
        due(page("  "), 0);
        due(work("  "), 0);
        due(sentence("  "), 0);
    }

    private static boolean isOneOf(String signs, char b) {
        return signs.indexOf(b) >= 0;
    }

    /** A sign of no text, or one that can't stand there: all bytes that there are, behind or within a text. */
    private static void everyByte() {
        says("1 what can't stand there");
        String digits = "0123456789";
        for (char b = 0; b < 256; b++) {
            bare();
            if (b == ' ') {
                due(page("ink 1; "), 0);
                due(law("1 "), 1);
                due(work("wipe; "), 0);
                due(sentence("1; "), 1);
                due(page("line 1;"), 1);
                continue;
            }
            faulty(page("ink 1;" + b), 1, 6);
            faulty(work("wipe;" + b), 1, 5);
            faulty(sentence("1;" + b), 1, isOneOf(digits, b) ? 3 : 2);
            if (isOneOf(digits, b)) {
                due(law("1" + b), 1);
                int due = page("line" + b + "6;");
                due(due, b == '0' ? 1 : -8);
                due(x.fault(), b == '0' ? NONE : 4);
            } else {
                faulty(law("1" + b), 1, isOneOf("+-*/%", b) ? 2 : 1);
                faulty(page("line" + b + "6;"), 1, b >= 'a' && b <= 'z' ? 0 : 4);
            }
        }
    }

    private static void kindsOfFaults() {
        says("FAULTS, the first from the left, at its first byte");
        fresh("line 1;");
        badPage(2, "line 1 |16 16;linx;");
        badPage(1, "line 1;|linx 16;cell 9 9;");
        badPage(2, "cell |4 100;");
        badPage(2, "cell 3  |0100;");
        badPage(3, times(6, "line 1;") + "  |line 16;x");
        badWork(2, "run |100;strike 9 9 9;x");
        badWork(2, "strike |9 9 9;");
        badLaw(2, "1+|1000+1000)");
        badSentence(2, "1;|99;x");

        says("1 what can't stand there (at the length, if the text ends too early)");
        fresh("line 1;");
        badPage(1, "|lin");
        badPage(1, "line|");
        badPage(1, "line  |");
        badPage(1, "line 1|");
        badPage(1, "line 1  |");
        badPage(1, "cell 1  |");
        badPage(1, "line 1;  ink|");
        badLaw(1, "words+ |");
        badLaw(1, "least[1,|");
        badWork(1, "strike 0 0|");
        badWork(1, "again 1[ |");
        badWork(1, "run|");
        badSentence(1, "1;2 |");
        // a number at the end of the text is looked at ahead of what is missing behind it
        badPage(2, "line |16");
        badPage(1, "line 1;|5");
        badPage(1, "|5;");
        badPage(1, "line |line;");
        badPage(1, "|\u00e9");
        // the text ends at n, whatever stands on the tape behind it
        put("line 1 2;");
        faulty(x.page(8), 1, 8);
        put("line 12;");
        faulty(x.page(6), 1, 6);
        put("line 1;");
        faulty(x.page(2), 1, 0);
        put("line 1;16;");
        due(x.page(7), 1);

        says("2 a number that is none such");
        fresh("line 1;line 1 1;");
        badPage(2, "ink |201;");
        badLaw(2, "least[1,|1000]");
        badWork(2, "strike |2 0 0;");
        badWork(2, "run |0;");
        badSentence(2, "|16;");
    }

    private static void tooMany() {
        says("3 a CLAUSE or LINE too many (at its word)");
        bare();
        String full = times(60, "ink1;");
        badPage(3, full + "  |line 1;");
        badPage(3, full + "|cell");
        badPage(3, full + "|ink");
        badPage(3, times(6, "line 1;") + "|line;");
        badPage(3, times(6, "line 1;") + "cell 0 1;|line 1;");
        due(page(times(6, "line 1;") + times(54, "ink1;")), 6);
        badPage(3, times(6, "line 1;") + times(54, "ink1;") + "|line 1;");

        says("a 9th WORD of a LINE");
        due(page("line 1 2 3 4 5 6 7 8;line 8;"), 9);
        badPage(3, "line 1 2 3 4 5 6 7 8  |9 16;");
        badPage(3, "line 1;line 1 2 3 4 5 6 7 8 |9");

        says("a 13th of a SENTENCE");
        due(sentence(times(12, "1;")), 12);
        badSentence(3, times(12, "1;") + " |1");
        badSentence(3, times(12, "1;") + "|1;16;");

        says("or a 7th of ( least most again that is open at one time");
        fresh("line 1;");
        due(worth(times(6, "(") + "5" + times(6, ")")), 5);
        due(worth(times(6, "least[8,") + "5" + times(6, "]")), 5);
        due(worth(times(6, "most[") + "5" + times(6, ",1]")), 5);
        due(worth("(least[(most[(least[5,6]),1]),9])"), 5);
        badLaw(3, times(6, "(") + "|(5");
        badLaw(3, times(6, "least[8,") + "|least");
        badLaw(3, times(6, "most[") + " |most[");
        badLaw(3, times(6, "most[") + "|(");
        badLaw(3, "(least[(most[(least[5, |most[");
        badLaw(3, "(least[(most[(least[|(");
        // as many values wait as can: of a sum, a product and a pair at each of six, and within
        due(worth(times(6, "9-1*most[1,") + "9-1*2" + times(6, "]")), 7);
        // who is closed is open no more
        due(worth(times(6, "(") + "5" + times(6, ")") + "+" + times(6, "(") + "4" + times(6, ")")), 9);
        due(worth(times(5, "(") + "(1)+(2)+least[3,4]+most[5,6]" + times(5, ")")), 12);
        due(work(times(6, "again 1[") + "set 0 7;" + times(6, "];")), 1);
        due(x.cell(0), 7);
        badWork(3, times(6, "again 1[") + " |again 1[];" + times(6, "];"));
        badWork(3, times(6, "again 1[") + "|again");
        due(work(times(5, "again 1[") + "again 1[];again 1[set 0 8;];" + times(5, "];")), 1);
        due(x.cell(0), 8);

        says("of one the least.");
        badPage(2, "line 1 2 3 4 5 6 7 8 |16;");
        badPage(1, times(60, "ink1;") + "|inks;");
        badPage(1, times(60, "ink1;") + "|;");
        badPage(1, times(6, "line 1;") + "|lines 1;");
        badSentence(2, times(12, "1;") + "|16;");
        badSentence(1, times(12, "1;") + "|;");
        badLaw(1, times(6, "(") + "|leasts[1,2]");
        badLaw(1, times(6, "(") + "|[");
        badWork(1, times(6, "again 1[") + "|agains");
    }

    // ---- the promises of texts ----

    private static void tape() {
        says("A PAGE without CLAUSES.");
        bare();
        alike(desk(), "struck, ink 60, strokes 0, at 0, deeds 0, cells 0 0 0 0");
        String made = all();
        due(x.page(0), 0);
        alike(all(), made);
        due(x.fault(), NONE);

        says("Twenty bytes come on the TAPE, of each number the highest first: how many there are; NONE, doing nothing,"
            + " if there would be more than 600.");
        bare();
        // "line", " 1 2", ";ink", " 7; ", and four blanks
        due(x.feed(0x6c696e65, 0x20312032, 0x3b696e6b, 0x20373b20, 0x20202020), 20);
        due(x.page(20), 2);
        due(x.told(3), 7);
        due(x.feed(0xff000000, 0, 0, 0, 0), 20);
        faulty(x.page(20), 1, 0);
        due(x.feed(0x202020ff, 0, 0, 0, 0), 20);
        faulty(x.page(20), 1, 3);
        due(x.feed(0x20202020, 0x20202020, 0x20202020, 0x20202020, 0x20202080), 20);
        faulty(x.page(20), 1, 19);
        for (int i = 1; i <= 30; i++) {
            due(x.feed(0x20202020, 0x20202020, 0x20202020, 0x20202020, i < 30 ? 0x20202020 : 0x20202021), 20 * i);
        }
        due(x.count(1), 600);
        due(x.feed(0, 0, 0, 0, 0), NONE);
        due(x.count(1), 600);
        faulty(x.page(600), 1, 599);
        due(x.feed(0, 0, 0, 0, 0), 20);
    }

    private static void pageAnswers() {
        says("The first n bytes of the TAPE (empty then) are the PAGE (no LAW, IMAGES, nothing to undo; the SENTENCE is"
            + " empty): how many WORDS");
        fresh("line 1 2 3;line 4 5;cell 1 9;ink 9;");
        law("9");
        sentence("1;2;");
        work("strike 0 0 0;run 1;strike 0 1 0;");
        x.image();
        x.image();
        put("line 1;line 2 3;line x y z");
        due(x.page(16), 3);
        due(x.count(1), 0);
        alike(desk(), "struck 0 0, ink 60, strokes 0, at 0, deeds 0, cells 0 0 0 0");
        due(x.cost(1, 0, 1), 2);
        due(x.told(8), 0);
        due(x.told(9), 0);
        due(x.count(0), 0);
        due(x.count(2), 0);
        due(x.apart(), NONE);
        due(x.restore(), -1);
        due(x.undo(), -1);
        due(x.ways(), 1);

        says("or the FAULT less 10 (all but the TAPE stays).");
        fresh("line 1 2 3;line 4 5;cell 1 9;ink 9;");
        law("9");
        sentence("1;2;");
        work("strike 0 0 0;run 1;strike 0 1 0;");
        x.image();
        String before = all().replaceAll("fault -?\\d+", "");
        due(page("line 9 9;cell 1 1;ink 1;x"), -9);
        alike(all().replaceAll("fault -?\\d+", ""), before);
        due(page("line 9 9;cell 1 1;ink 1;ink 999;"), -8);
        alike(all().replaceAll("fault -?\\d+", ""), before);
        due(page(times(7, "line 9;")), -7);
        alike(all().replaceAll("fault -?\\d+", ""), before);
        due(x.word(0, 0, 0), 1);
        due(x.count(1), 0);

        says("IllegalArgumentException: n is not 0 to the TAPE's bytes (it stays).");
        bare();
        refused(ILLEGAL, () -> x.page(1));
        refused(ILLEGAL, () -> x.page(-1));
        put("line 1;");
        refused(ILLEGAL, () -> x.page(21));
        refused(ILLEGAL, () -> x.page(-1));
        refused(ILLEGAL, () -> x.page(LOWEST));
        refused(ILLEGAL, () -> x.page(HIGHEST));
        due(x.count(1), 20);
        faulty(x.page(20), 1, 7);
        put(times(600, " "));
        refused(ILLEGAL, () -> x.page(601));
        due(x.page(600), 0);
    }

    private static void otherTexts() {
        says("Likewise the LAW (n to 150): 1.");
        fresh("line 1;line 2;");
        refused(ILLEGAL, () -> x.law(1));
        put(stretched("7", "+1", 150) + "5");
        refused(ILLEGAL, () -> x.law(151));
        refused(ILLEGAL, () -> x.law(-1));
        refused(ILLEGAL, () -> x.law(HIGHEST));
        due(x.law(150), 1);
        due(x.count(1), 0);
        due(x.cost(0, 0, 0), 8);
        due(law("5+"), -9);
        due(law("5+1000"), -8);
        due(law("((((((("), -7);
        due(x.count(1), 0);
        due(x.cost(0, 0, 0), 8);
        // the tape is shorter than what a law may have
        put("7");
        refused(ILLEGAL, () -> x.law(21));
        due(x.law(1), 1);
        due(x.cost(0, 0, 0), 7);

        says("Likewise WORK (n to 150), which is done: how many STEPS were done (agains not counted, nor REFUSED"
            + " ones)");
        refused(ILLEGAL, () -> x.work(1));
        put(stretched("set 0 1;", "set 1 1;", 150) + "x");
        refused(ILLEGAL, () -> x.work(151));
        refused(ILLEGAL, () -> x.work(-1));
        refused(ILLEGAL, () -> x.work(LOWEST));
        due(x.work(150), 2);
        due(x.count(1), 0);
        due(work("again 3[again 2[set 0 2;set 0 3;set 0 3;];again 0[wipe;];];"), 12);
        due(x.told(9), 6);
        due(work("again 2[];"), 0);
        due(work("wipe;set 0 3;"), 0);
        put("wipe;");
        refused(ILLEGAL, () -> x.work(21));

        says("or the FAULT less 10 (none is)");
        fresh("line 1;line 2;");
        String before = desk();
        due(work("set 0 9;strike 0 0 0;run 1;x"), -9);
        due(work("set 0 9;strike 0 0 0;run 1;run 0;"), -8);
        due(work("set 0 9;" + times(7, "again 1[")), -7);
        alike(desk(), before);
        due(x.count(1), 0);
        due(x.count(2), 0);

        says("Likewise the SENTENCE (n to 60): how many WORDS.");
        refused(ILLEGAL, () -> x.sentence(1));
        put(stretched("1;", "2;", 60) + "x");
        refused(ILLEGAL, () -> x.sentence(61));
        refused(ILLEGAL, () -> x.sentence(-1));
        refused(ILLEGAL, () -> x.sentence(HIGHEST));
        due(x.sentence(60), 2);
        due(x.count(1), 0);
        due(x.says(), true);
        due(sentence("1;2"), -9);
        due(sentence("1;16;"), -8);
        due(sentence(times(13, "1;")), -7);
        due(x.told(8), 2);
        due(x.says(), true);
        put("1;");
        refused(ILLEGAL, () -> x.sentence(21));
        due(x.sentence(0), 0);
        due(x.told(8), 0);
    }

    private static void worksThatAreFull() {
        says("-20 behind the exception, ahead of the FAULT (nothing is read, there is no FAULT, the TAPE is empty"
            + " then): 16 WORKS are there that were not undone.");
        fresh("line 1;");
        for (int i = 1; i <= 16; i++) {
            due(work("set 0 " + i + ";"), 1);
            due(x.count(2), i);
        }
        String before = desk();
        faulty(law("x"), 1, 0);
        due(work("set 0 99;"), -20);
        due(x.fault(), NONE);
        due(x.count(1), 0);
        faulty(law("x"), 1, 0);
        due(work("x"), -20);
        due(x.fault(), NONE);
        due(x.count(1), 0);
        refused(ILLEGAL, () -> x.work(1));
        put(times(160, "x"));
        refused(ILLEGAL, () -> x.work(151));
        refused(ILLEGAL, () -> x.work(-1));
        due(x.count(1), 160);
        due(x.work(150), -20);
        due(x.work(0), -20);
        alike(desk(), before);
        due(x.count(2), 16);
        // who is undone makes room for one
        due(x.undo(), 15);
        due(work("set 0 98;"), 1);
        due(work("set 0 99;"), -20);
        // a work with a fault is none
        due(x.undo(), 15);
        due(work("x"), -9);
        due(work(""), 0);
        due(work(""), -20);
        due(page("line 1;"), 1);
        due(work(""), 0);
    }

    private static void placeOfTheFault() {
        says("The place of the FAULT of the latest text; NONE without.");
        bare();
        due(x.fault(), NONE);
        badPage(1, "line 1;|x");
        badLaw(2, "1+2+|1000");
        badWork(1, "wipe|");
        badSentence(1, "|x");
        due(sentence("1;"), 1);
        due(x.fault(), NONE);
        badPage(1, "ink 1;ink 2;|x");
        refused(ILLEGAL, () -> x.page(1));
        due(x.fault(), 12);
        due(law("1"), 1);
        due(x.fault(), NONE);
        badPage(1, "line 1;|x");
        due(work(""), 0);
        due(x.fault(), NONE);
        badSentence(1, "1;|x");
        due(page(""), 0);
        due(x.fault(), NONE);
    }
}
