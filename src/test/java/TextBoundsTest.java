/** Promises 6 to 12: a test for each sentence that names a boundary. */
public final class TextBoundsTest {
    private static final int BAD = -1, FULL = -3, NONE = -4, TOLD = -10;
    private static final int NULL = -11, INDEX = -12, CAST = -13;
    private static final int MIN = Integer.MIN_VALUE, MAX = Integer.MAX_VALUE;
    private static final Check check = new Check();

    public static void main(String[] args) {
        sheetsAreFour();
        lanesAreThree();
        cellsAreOneTo24();
        badAheadOfFaults();
        nothingIsNull();
        anotherLaneIsCast();
        nullAheadOfIndex();
        castAheadOfIndex();
        castAheadOfNoForm();
        beyondTheSheetIsIndex();
        sheetWithoutCells();
        theFirstMetOfCells();
        indexThoughThereAreNoForms();
        noFormNorGapNorEnd();
        noFormByEachLane();
        noFormAtEachCell();
        gapsAndEndsWithoutForms();
        textsAreEight();
        faultsAheadOfFull();
        textIsTakenNotBound();
        dropUpToNone();
        dropTakesAllOfTheText();
        textOfNoText();
        textOfCells();
        textOfWithoutSuchNumber();
        wordsAllThatStandsBetween();
        mostWords();
        wholeOnesAreWithoutGaps();
        mostCellsOfAWholeOne();
        countedNoSign();
        countInAllTexts();
        besideNoSign();
        besideNoEndNoGapBetween();
        besideNotOverTexts();
        chanceNoSign();
        chanceBelowTwoSigns();
        chanceOfOnce();
        chanceAtTheMost();
        runsWithoutSuchNumber();
        runsOfNothing();
        runsOfWholeWordsAlone();
        runsAboveAndBelow();
        runsAtTheMost();
        check.finish();
    }

    // ---- Promise 6

    private static UnreadScript withSheets() {
        UnreadScript x = Scripts.withForms(3);
        for (int k = 0; k < 4; k++) x.sheet(k, k % 3, 60);
        return x;
    }

    private static void sheetsAreFour() {
        check.promise("6: BAD: k");
        UnreadScript x = withSheets();
        for (int k : new int[] {-1, 4, MIN, MAX}) check.due("text of SHEET " + k, x.text(k, 0, 0, 1), BAD);
        for (int k = 0; k < 4; k++) check.due("text of SHEET " + k, x.text(k, k % 3, 0, 1), k);
    }

    private static void lanesAreThree() {
        check.promise("6: BAD: lane");
        UnreadScript x = withSheets();
        for (int lane : new int[] {-1, 3, MIN, MAX}) check.due("text as of " + lane, x.text(0, lane, 0, 1), BAD);
        for (int lane = 0; lane < 3; lane++) check.due("text as of " + lane, x.text(lane, lane, 0, 1), lane);
    }

    private static void cellsAreOneTo24() {
        check.promise("6: n (1 to 24); BAD: n");
        UnreadScript x = withSheets();
        for (int n : new int[] {0, -1, 25, 60, MIN, MAX}) check.due("n " + n, x.text(0, 0, 0, n), BAD);
        check.due("n 1", x.text(0, 0, 0, 1), 0);
        check.due("n 24", x.text(0, 0, 0, 24), 1);
        check.due("CELLS of the shortest", x.textOf(0, 0), 1);
        check.due("CELLS of the longest", x.textOf(1, 0), 24);
    }

    private static void badAheadOfFaults() {
        check.promise("6: BAD ahead of the FAULTS");
        UnreadScript x = new UnreadScript();
        check.due("lane, NULL", x.text(0, 3, 0, 1), BAD);
        check.due("n, NULL", x.text(0, 0, 0, 0), BAD);
        x.sheet(0, 0, 1);
        check.due("lane, not CAST", x.text(0, -1, 0, 1), BAD);
        check.due("n, not CAST", x.text(0, 1, 0, 25), BAD);
        check.due("n, not INDEX", x.text(0, 0, 0, 25), BAD);
        check.due("n, not INDEX", x.text(0, 0, -1, 0), BAD);
        check.due("k, not INDEX", x.text(4, 0, -1, 1), BAD);
        check.due("n, not that there is no FORM", x.text(0, 0, 0, 0), BAD);
    }

    private static void nothingIsNull() {
        check.promise("6: -10 less the FAULT: NULL");
        for (int k = 0; k < 4; k++) {
            UnreadScript x = new UnreadScript();
            for (int other = 0; other < 4; other++) {
                if (other != k) x.sheet(other, 0, 60);
            }
            for (int lane = 0; lane < 3; lane++) check.due("SHEET " + k, x.text(k, lane, 0, 1), NULL);
        }
    }

    private static void anotherLaneIsCast() {
        check.promise("6: CAST (another lane)");
        for (int lane = 0; lane < 3; lane++) {
            UnreadScript x = Scripts.withForms(1);
            x.sheet(1, lane, 1);
            for (int as = 0; as < 3; as++) {
                check.due("lane " + lane + " as " + as, x.text(1, as, 0, 1), as == lane ? 0 : CAST);
            }
        }
    }

    private static void nullAheadOfIndex() {
        check.promise("6: NULL ahead of INDEX");
        UnreadScript x = new UnreadScript();
        for (int f : new int[] {-1, 0, 60, MIN, MAX}) check.due("f " + f, x.text(2, 1, f, 24), NULL);
    }

    private static void castAheadOfIndex() {
        check.promise("6: CAST ahead of INDEX");
        UnreadScript x = Scripts.withForms(1);
        x.sheet(0, 0, 0);
        x.sheet(1, 2, 5);
        for (int f : new int[] {-1, 0, 60, MIN, MAX}) check.due("f " + f, x.text(0, 1, f, 1), CAST);
        check.due("n beyond", x.text(1, 1, 0, 6), CAST);
    }

    private static void castAheadOfNoForm() {
        check.promise("6: CAST ahead of CELL by CELL");
        UnreadScript x = new UnreadScript();
        x.sheet(0, 0, 1);
        check.due("no FORM", x.text(0, 0, 0, 1), -20);
        check.due("another lane", x.text(0, 2, 0, 1), CAST);
    }

    private static void beyondTheSheetIsIndex() {
        check.promise("6: INDEX");
        UnreadScript x = withSheets();
        for (int f : new int[] {-1, -24, 60, 61, MIN, MIN + 1, MAX, MAX - 23}) {
            check.due("f " + f, x.text(0, 0, f, 24), INDEX);
            check.due("f " + f + " of one CELL", x.text(0, 0, f, 1), INDEX);
        }
        check.due("f 59, n 2", x.text(0, 0, 59, 2), INDEX);
        check.due("f 37, n 24", x.text(0, 0, 37, 24), INDEX);
        check.due("f 59, n 1", x.text(0, 0, 59, 1), 0);
        check.due("f 36, n 24", x.text(0, 0, 36, 24), 1);
        check.due("f 0, n 1", x.text(0, 0, 0, 1), 2);
        x.sheet(1, 0, 60);
        x.sheet(1, 0, 3);
        check.due("shorter than it was", x.text(1, 0, 0, 4), INDEX);
        check.due("all of it", x.text(1, 0, 0, 3), 3);
    }

    private static void sheetWithoutCells() {
        check.promise("6: INDEX, of a SHEET of 0 CELLS");
        UnreadScript x = Scripts.withForms(1);
        x.sheet(2, 1, 0);
        for (int f : new int[] {-1, 0, 1, MIN, MAX}) check.due("f " + f, x.text(2, 1, f, 1), INDEX);
    }

    private static void theFirstMetOfCells() {
        check.promise("6: the first met");
        UnreadScript x = Scripts.withForms(1);
        x.sheet(0, 2, 4);
        x.lay(0, 1, 1);
        x.lay(0, 3, -3);
        check.due("two that are no FORMS", x.text(0, 2, 0, 4), -21);
        check.due("from CELL 2 on", x.text(0, 2, 2, 2), -21);
        check.due("no FORM ahead of INDEX", x.text(0, 2, 2, 3), -21);
        check.due("no FORM at once", x.text(0, 2, 1, 24), -20);
        check.due("INDEX ahead of no FORM", x.text(0, 2, -1, 3), INDEX);
        x.lay(0, 3, 0);
        check.due("INDEX behind what is a FORM", x.text(0, 2, 2, 3), INDEX);
        check.due("none beyond n", x.text(0, 2, 0, 1), 0);
        check.due("none ahead of f", x.text(0, 2, 2, 2), 1);
    }

    private static void indexThoughThereAreNoForms() {
        check.promise("6: INDEX ahead of no FORM, where there are no FORMS");
        UnreadScript x = new UnreadScript();
        x.sheet(0, 0, 0);
        check.due("no CELLS", x.text(0, 0, 0, 1), INDEX);
        x.sheet(0, 0, 2);
        check.due("beyond", x.text(0, 0, 2, 1), INDEX);
        check.due("ahead of it", x.text(0, 0, -1, 2), INDEX);
        check.due("no FORM", x.text(0, 0, 1, 2), -20);
        x.lay(0, 1, -1);
        check.due("beyond a gap", x.text(0, 0, 1, 2), INDEX);
        check.due("a gap", x.text(0, 0, 1, 1), 0);
    }

    private static void noFormNorGapNorEnd() {
        check.promise("6: is no FORM, nor -1, -2");
        UnreadScript x = Scripts.withForms(3);
        x.sheet(0, 2, 1);
        for (int v : new int[] {3, 4, 23, 24, -3, -4, -10, MIN, MAX, 4095}) {
            x.lay(0, 0, v);
            check.due("CELL " + v, x.text(0, 2, 0, 1), -20);
        }
        int t = 0;
        for (int v : new int[] {0, 2, -1, -2}) {
            x.lay(0, 0, v);
            check.due("CELL " + v, x.text(0, 2, 0, 1), t);
            check.due("CELL " + v + " of the TEXT", x.textOf(t, 10), v);
            t++;
        }
        x.lay(0, 0, 3);
        x.form(1);
        check.due("a FORM now", x.text(0, 2, 0, 1), 4);
    }

    private static void noFormByEachLane() {
        check.promise("6: no FORM, at the ends of each lane");
        UnreadScript x = Scripts.withForms(24);
        int[][] ends = {{127, -128, 24, -3}, {32767, -32768, 24, -3}, {MAX, MIN, 24, -3}};
        for (int lane = 0; lane < 3; lane++) {
            x.sheet(0, lane, 1);
            for (int v : ends[lane]) {
                x.lay(0, 0, v);
                check.due("lane " + lane + " " + v, x.text(0, lane, 0, 1), -20);
            }
            x.lay(0, 0, 23);
            check.due("lane " + lane + " 23", x.text(0, lane, 0, 1), lane);
        }
    }

    private static void noFormAtEachCell() {
        check.promise("6: -20 less i");
        UnreadScript x = Scripts.withForms(1);
        for (int i = 0; i < 24; i++) {
            x.sheet(0, 0, 60);
            x.lay(0, 30 + i, 1);
            check.due("CELL " + i, x.text(0, 0, 30, 24), -20 - i);
        }
        x.sheet(0, 0, 60);
        x.lay(0, 54, 1);
        x.lay(0, 29, 1);
        check.due("ahead of them, behind them", x.text(0, 0, 30, 24), 0);
    }

    private static void gapsAndEndsWithoutForms() {
        check.promise("6: each a FORM, -1 a gap, -2 a word's end, though there are no FORMS");
        UnreadScript x = new UnreadScript();
        check.due("a gap", Scripts.text(x, "."), 0);
        check.due("an end", Scripts.text(x, " "), 1);
        check.due("a FORM", Scripts.text(x, ". a"), -22);
        check.due("count(1)", x.count(1), 2);
        check.due("count(2)", x.count(2), 0);
    }

    private static void textsAreEight() {
        check.promise("6: TEXTS (8); FULL");
        UnreadScript x = withSheets();
        for (int t = 0; t < 8; t++) check.due("text", x.text(0, 0, 0, 24), t);
        check.due("the ninth", x.text(0, 0, 0, 24), FULL);
        check.due("the ninth of one CELL", x.text(0, 0, 59, 1), FULL);
        check.due("count(1)", x.count(1), 8);
        check.due("count(2)", x.count(2), 192);
        check.due("textOf(7, 0)", x.textOf(7, 0), 24);
        check.due("textOf(8, 0)", x.textOf(8, 0), TOLD);
        x.drop();
        check.due("room again", x.text(0, 0, 59, 1), 7);
        check.due("the ninth", x.text(0, 0, 0, 1), FULL);
    }

    private static void faultsAheadOfFull() {
        check.promise("6: the first met; FULL behind them");
        UnreadScript x = Scripts.withForms(1);
        x.sheet(0, 0, 2);
        for (int t = 0; t < 8; t++) x.text(0, 0, 0, 1);
        x.lay(0, 1, 7);
        check.due("k", x.text(-1, 0, 0, 1), BAD);
        check.due("lane", x.text(0, 3, 0, 1), BAD);
        check.due("n", x.text(0, 0, 0, 25), BAD);
        check.due("NULL", x.text(1, 0, 0, 1), NULL);
        check.due("CAST", x.text(0, 1, 0, 1), CAST);
        check.due("INDEX", x.text(0, 0, 2, 1), INDEX);
        check.due("no FORM", x.text(0, 0, 0, 2), -21);
        check.due("FULL", x.text(0, 0, 0, 1), FULL);
    }

    private static void textIsTakenNotBound() {
        check.promise("6: CELLS of a SHEET taken become a TEXT");
        UnreadScript x = withSheets();
        x.lay(0, 5, 2);
        x.text(0, 0, 5, 1);
        x.lay(0, 5, 1);
        x.sheet(0, 2, 0);
        check.due("CELL 0", x.textOf(0, 10), 2);
        check.due("another from the start of the SHEET is not it", x.text(1, 1, 0, 1), 1);
        check.due("CELL 0 as it was", x.textOf(0, 10), 2);
    }

    // ---- Promise 7

    private static void dropUpToNone() {
        check.promise("7: The latest TEXT goes: its number. NONE");
        UnreadScript x = Scripts.withForms(1);
        check.due("no TEXTS", x.drop(), NONE);
        for (int t = 0; t < 8; t++) Scripts.text(x, "a");
        for (int t = 7; t >= 0; t--) check.due("drop()", x.drop(), t);
        check.due("no TEXTS left", x.drop(), NONE);
        check.due("nor then", x.drop(), NONE);
        check.due("numbers from 0 again", Scripts.text(x, "a"), 0);
    }

    private static void dropTakesAllOfTheText() {
        check.promise("7: The latest TEXT goes");
        UnreadScript x = Scripts.withForms(3);
        Scripts.text(x, "ab ac");
        Scripts.text(x, "bb ab.bc bb");
        x.drop();
        check.due("count(1)", x.count(1), 1);
        check.due("count(2)", x.count(2), 4);
        check.due("counted(1)", x.counted(1), 1);
        check.due("beside(1, 1)", x.beside(1, 1), 0);
        check.due("runs(1)", x.runs(1), 4);
        check.due("akin(1, 2)", x.akin(1, 2), 1);
        check.due("tabled(0)", x.tabled(0), 0);
        check.due("read of it", x.read(2, 0), BAD);
        check.due("textOf(1, 0)", x.textOf(1, 0), TOLD);
        check.due("the words of another", x.textOf(0, 3), 2);
    }

    // ---- Promise 8

    private static void textOfNoText() {
        check.promise("8: BAD -10, no such TEXT");
        UnreadScript x = Scripts.withForms(1);
        for (int t : new int[] {0, -1, MIN, MAX}) check.due("no TEXTS", x.textOf(t, 0), TOLD);
        Scripts.text(x, "a");
        for (int t : new int[] {1, -1, 7, 8, MIN, MAX}) check.due("TEXT " + t, x.textOf(t, 0), TOLD);
        check.due("TEXT 0", x.textOf(0, 0), 1);
    }

    private static void textOfCells() {
        check.promise("8: 10 and i: the SIGN of CELL i (-1, -2 as they are)");
        UnreadScript x = Scripts.withForms(24);
        Scripts.text(x, "xwvutsrqponm. jihgfedcba");
        check.due("CELL 0", x.textOf(0, 10), 23);
        check.due("CELL 11", x.textOf(0, 21), 12);
        check.due("a gap", x.textOf(0, 22), -1);
        check.due("an end", x.textOf(0, 23), -2);
        check.due("CELL 23", x.textOf(0, 33), 0);
        check.due("CELL 24", x.textOf(0, 34), TOLD);
        Scripts.text(x, "b");
        check.due("CELL 0 of one", x.textOf(1, 10), 1);
        check.due("CELL 1 of one", x.textOf(1, 11), TOLD);
        Scripts.text(x, "ba");
        check.due("CELL 1 of two", x.textOf(2, 11), 0);
        check.due("CELL 2 of two", x.textOf(2, 12), TOLD);
        x.likeness(12);
        check.due("its SIGN, not its FORM", x.textOf(0, 10), 0);
    }

    private static void textOfWithoutSuchNumber() {
        check.promise("8: BAD -10, no such number");
        UnreadScript x = Scripts.withForms(2);
        Scripts.text(x, "abababababababababababab");
        for (int what : new int[] {-1, -2, 6, 7, 8, 9, 34, 35, MIN, MAX, MIN + 10, MAX - 10}) {
            check.due("textOf(0, " + what + ")", x.textOf(0, what), TOLD);
        }
        check.due("textOf(0, 5)", x.textOf(0, 5), 24);
        check.due("textOf(0, 10)", x.textOf(0, 10), 0);
        check.due("textOf(0, 33)", x.textOf(0, 33), 1);
    }

    private static void textIs(String told, int... want) {
        UnreadScript x = Scripts.withForms(3);
        Scripts.text(x, told);
        for (int what = 0; what < 6; what++) {
            check.due("textOf '" + told + "' " + what, x.textOf(0, what), want[what]);
        }
    }

    private static void wordsAllThatStandsBetween() {
        check.promise("8: WORDS: all that stands between two ends (or its beginning, its end), if that is something");
        textIs("a", 1, 1, 0, 1, 1, 1);
        textIs(" ", 1, 0, 0, 0, 0, 0);
        textIs("  ", 2, 0, 0, 0, 0, 0);
        textIs("                        ", 24, 0, 0, 0, 0, 0);
        textIs("abcabcabcabcabcabcabcabc", 24, 24, 0, 1, 1, 24);
        textIs(" a", 2, 1, 0, 1, 1, 1);
        textIs("a ", 2, 1, 0, 1, 1, 1);
        textIs("a b", 3, 2, 0, 2, 2, 1);
        textIs("a  b", 4, 2, 0, 2, 2, 1);
        textIs("  ab  c  ", 9, 3, 0, 2, 2, 2);
    }

    private static void mostWords() {
        check.promise("8: WORDS, as many as there can be");
        textIs("a b c a b c a b c a b c ", 24, 12, 0, 12, 12, 1);
        textIs(" a b c a b c a b c a b c", 24, 12, 0, 12, 12, 1);
        textIs("ab c a b c a b c a b c a", 24, 13, 0, 12, 12, 2);
        textIs(". . . . . . . . . . . . ", 24, 0, 12, 12, 0, 0);
    }

    private static void wholeOnesAreWithoutGaps() {
        check.promise("8: one without gaps is WHOLE");
        textIs(".", 1, 0, 1, 1, 0, 0);
        textIs("........................", 24, 0, 24, 1, 0, 0);
        textIs(".ab", 3, 2, 1, 1, 0, 0);
        textIs("ab.", 3, 2, 1, 1, 0, 0);
        textIs("a.b", 3, 2, 1, 1, 0, 0);
        textIs(". a", 3, 1, 1, 2, 1, 1);
        textIs("a .", 3, 1, 1, 2, 1, 1);
        textIs("abc.abc a", 9, 7, 1, 2, 1, 1);
    }

    private static void mostCellsOfAWholeOne() {
        check.promise("8: 5 the most CELLS of a WHOLE one");
        textIs("ab abc a", 8, 6, 0, 3, 3, 3);
        textIs("abcab. ab", 9, 7, 1, 2, 1, 2);
        textIs("abcab.", 6, 5, 1, 1, 0, 0);
        UnreadScript x = Scripts.withForms(2);
        Scripts.text(x, "abab");
        Scripts.text(x, "a");
        check.due("of this TEXT alone", x.textOf(1, 5), 1);
    }

    // ---- Promise 9

    private static void countedNoSign() {
        check.promise("9: BAD: it is no SIGN's number");
        UnreadScript x = new UnreadScript();
        for (int s : new int[] {0, -1, -2, MIN, MAX}) check.due("no FORMS", x.counted(s), BAD);
        x.form(0);
        x.form(1);
        x.form(6);
        for (int s : new int[] {1, 3, 24, -1, -2, MIN, MAX}) check.due("counted(" + s + ")", x.counted(s), BAD);
        check.due("counted(0) without TEXTS", x.counted(0), 0);
        check.due("counted(2) without TEXTS", x.counted(2), 0);
    }

    private static void countInAllTexts() {
        check.promise("9: how often it is in all TEXTS");
        UnreadScript x = Scripts.withForms(2);
        for (int t = 1; t <= 8; t++) {
            Scripts.text(x, "aaaaaaaaaaaaaaaaaaaaaaaa");
            check.due("counted(0)", x.counted(0), 24 * t);
        }
        check.due("counted(1)", x.counted(1), 0);
        x.drop();
        Scripts.text(x, "b. .a");
        check.due("counted(1)", x.counted(1), 1);
        check.due("counted(0)", x.counted(0), 169);
    }

    // ---- Promise 10

    private static void besideNoSign() {
        check.promise("10: BAD");
        UnreadScript x = new UnreadScript();
        check.due("no FORMS", x.beside(0, 0), BAD);
        x.form(0);
        x.form(1);
        x.form(6);
        for (int s : new int[] {1, 3, 24, -1, -2, MIN, MAX}) {
            check.due("beside(" + s + ", 0)", x.beside(s, 0), BAD);
            check.due("beside(2, " + s + ")", x.beside(2, s), BAD);
        }
        check.due("beside(0, 2) without TEXTS", x.beside(0, 2), 0);
        check.due("beside(2, 2) without TEXTS", x.beside(2, 2), 0);
    }

    private static void besideNoEndNoGapBetween() {
        check.promise("10: right behind (no end, no gap between)");
        UnreadScript x = Scripts.withForms(2);
        Scripts.text(x, "a b");
        Scripts.text(x, "a.b");
        Scripts.text(x, "ba");
        check.due("beside(0, 1)", x.beside(0, 1), 0);
        check.due("beside(1, 0)", x.beside(1, 0), 1);
        Scripts.text(x, ".ab ");
        check.due("beside(0, 1)", x.beside(0, 1), 1);
        Scripts.text(x, "aaaaaaaaaaaaaaaaaaaaaaaa");
        check.due("beside(0, 0)", x.beside(0, 0), 23);
    }

    private static void besideNotOverTexts() {
        check.promise("10: of TEXTS each by itself");
        UnreadScript x = Scripts.withForms(2);
        Scripts.text(x, "bbbbbbbbbbbbbbbbbbbbbbba");
        Scripts.text(x, "b");
        Scripts.text(x, "a");
        check.due("beside(0, 1)", x.beside(0, 1), 0);
        check.due("beside(1, 0)", x.beside(1, 0), 1);
        check.due("beside(1, 1)", x.beside(1, 1), 22);
    }

    // ---- Promise 11

    private static void chanceIs(UnreadScript x, int a, int b, long above, long below) {
        check.due("chance(" + a + ", " + b + ", 0)", x.chance(a, b, 0), above);
        check.due("chance(" + a + ", " + b + ", 1)", x.chance(a, b, 1), below);
    }

    private static void chanceNoSign() {
        check.promise("11: BAD");
        UnreadScript x = new UnreadScript();
        check.due("no FORMS", x.chance(0, 0, 0), BAD);
        x.form(0);
        x.form(1);
        x.form(6);
        for (int s : new int[] {1, 3, 24, -1, -2, MIN, MAX}) {
            check.due("a " + s, x.chance(s, 0, 0), BAD);
            check.due("b " + s, x.chance(2, s, 1), BAD);
        }
        for (int what : new int[] {-1, 2, MIN, MAX}) check.due("what " + what, x.chance(0, 2, what), BAD);
    }

    private static void chanceBelowTwoSigns() {
        check.promise("11: 0, where N is below 2");
        UnreadScript x = Scripts.withForms(2);
        chanceIs(x, 0, 1, 0, 1);
        chanceIs(x, 0, 0, 0, 1);
        Scripts.text(x, ". .");
        chanceIs(x, 0, 1, 0, 1);
        Scripts.text(x, "a");
        chanceIs(x, 0, 1, 0, 1);
        chanceIs(x, 0, 0, 0, 1);
        x.drop();
        Scripts.text(x, "ab");
        chanceIs(x, 0, 1, 1, 2);
        x.drop();
        Scripts.text(x, "aa");
        chanceIs(x, 0, 0, 1, 1);
    }

    private static void chanceOfOnce() {
        check.promise("11: COUNT of a times (that less 1), if a is b");
        UnreadScript x = Scripts.withForms(3);
        Scripts.text(x, "abb");
        // N 3, J 2: of a and b 2 * 1 * 2 by 6, of b and b 2 * 2 * 1 by 6, of a and a none.
        chanceIs(x, 0, 1, 2, 3);
        chanceIs(x, 1, 0, 2, 3);
        chanceIs(x, 1, 1, 2, 3);
        chanceIs(x, 0, 0, 0, 1);
        chanceIs(x, 2, 2, 0, 1);
        chanceIs(x, 0, 2, 0, 1);
        x.drop();
        Scripts.text(x, "a b.b");
        // No SIGN is right behind another one.
        chanceIs(x, 0, 1, 0, 1);
    }

    private static void chanceAtTheMost() {
        check.promise("11: in lowest terms, with as much as there can be");
        UnreadScript x = Scripts.withForms(2);
        for (int t = 0; t < 8; t++) Scripts.text(x, "aaaaaaaaaaaaaaaaaaaaaaaa");
        // N 192, J 184, COUNT 192: 184 * 192 * 191 by 192 * 191.
        chanceIs(x, 0, 0, 184, 1);
        x.drop();
        Scripts.text(x, "aaaaaaaaaaaaaaaaaaaaaaab");
        chanceIs(x, 0, 1, 23, 24);
        chanceIs(x, 0, 0, 184L * 190 / 16, 192 / 16);
    }

    // ---- Promise 12

    private static void runsWithoutSuchNumber() {
        check.promise("12: BAD -10");
        UnreadScript x = Scripts.withForms(1);
        for (int n = 0; n < 2; n++) {
            for (int what : new int[] {-1, -2, 3, 10, MIN, MAX}) check.due("runs(" + what + ")", x.runs(what), TOLD);
            Scripts.text(x, "a");
        }
    }

    private static void runsAre(UnreadScript x, int way, int beginning, int ending) {
        check.due("runs(0)", x.runs(0), way);
        check.due("runs(1)", x.runs(1), beginning);
        check.due("runs(2)", x.runs(2), ending);
    }

    private static void runsOfNothing() {
        check.promise("12: not told, where there are no WHOLE WORDS");
        UnreadScript x = Scripts.withForms(2);
        runsAre(x, 0, 0, 0);
        Scripts.text(x, "  ");
        Scripts.text(x, "a. .b");
        runsAre(x, 0, 0, 0);
    }

    private static void runsOfWholeWordsAlone() {
        check.promise("12: how many WHOLE WORDS it begins");
        UnreadScript x = Scripts.withForms(2);
        Scripts.text(x, "a.b ab. .ab");
        runsAre(x, 0, 0, 0);
        Scripts.text(x, "a");
        runsAre(x, 0, 1, 1);
        Scripts.text(x, "a ba");
        runsAre(x, 1, 5, 9);
    }

    private static void runsAboveAndBelow() {
        check.promise("12: FORWARD, if ENDING is above BEGINNING; BACK, if it is below; else not told");
        UnreadScript x = Scripts.withForms(4);
        Scripts.text(x, "ac bc");
        runsAre(x, 1, 2, 4);
        Scripts.text(x, "da db");
        runsAre(x, 0, 6, 6);
        Scripts.text(x, "dc");
        // d begins 3, a and b one each; c ends 3, a and b one each.
        runsAre(x, 0, 11, 11);
        Scripts.text(x, "db");
        runsAre(x, -1, 18, 14);
    }

    private static void runsAtTheMost() {
        check.promise("12: squared, summed, with as many WORDS as there can be");
        UnreadScript x = Scripts.withForms(1);
        for (int t = 0; t < 8; t++) Scripts.text(x, "a a a a a a a a a a a a ");
        runsAre(x, 0, 96 * 96, 96 * 96);
    }
}
