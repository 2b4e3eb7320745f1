/** Promises 35 to 37: a test for each sentence that names a boundary. */
public final class SheetBoundsTest {
    private static final int BAD = -1, NONE = -4, NULL = -11, INDEX = -12, CAST = -13, SIZE = -14, NO_FORM = -20;
    private static final int MIN = Integer.MIN_VALUE, MAX = Integer.MAX_VALUE;
    private static final Check check = new Check();

    public static void main(String[] args) {
        sheetsZeroToThree();
        lanesZeroToTwo();
        cellsZeroTo60();
        belowZeroIsSize();
        badAheadOfSize();
        newRowOfCellsZero();
        newRowEachTime();
        sheetsAreApart();
        layNoSuchSheet();
        layOnNothing();
        layBeyondTheSheet();
        layOnASheetOfNoCells();
        nullAheadOfIndex();
        bytesKeepTheirLowestBits();
        shortsKeepTheirLowestBits();
        intsKeepAll();
        layOneCellAlone();
        countWithoutSuchNumber();
        countUpToFull();
        countOfSheetZero();
        countOfSignsInTexts();
        countOfWithdrawnOnes();
        lastCallOfAll();
        check.finish();
    }

    // ---- Promise 35

    private static void sheetsZeroToThree() {
        check.promise("35: SHEETS 0 to 3; BAD");
        UnreadScript x = new UnreadScript();
        for (int k : new int[] {-1, 4, 5, MIN, MAX}) check.due("sheet(" + k + ", 0, 1)", x.sheet(k, 0, 1), BAD);
        for (int k = 0; k < 4; k++) check.due("sheet(" + k + ", 0, 1)", x.sheet(k, 0, 1), 1);
    }

    private static void lanesZeroToTwo() {
        check.promise("35: BYTES (lane 0), SHORTS (1), INTS (2); BAD");
        UnreadScript x = new UnreadScript();
        for (int lane : new int[] {-1, 3, 4, MIN, MAX}) check.due("lane " + lane, x.sheet(0, lane, 1), BAD);
        check.due("count(10)", x.count(10), NONE);
        for (int lane = 0; lane < 3; lane++) check.due("lane " + lane, x.sheet(0, lane, 1), 1);
    }

    private static void cellsZeroTo60() {
        check.promise("35: with 0 to 60 CELLS; BAD: also n above 60");
        UnreadScript x = new UnreadScript();
        for (int n : new int[] {61, 62, 64, 120, MAX}) check.due("sheet(0, 0, " + n + ")", x.sheet(0, 0, n), BAD);
        check.due("count(10)", x.count(10), NONE);
        for (int n : new int[] {0, 1, 59, 60}) {
            check.due("sheet(0, 0, " + n + ")", x.sheet(0, 0, n), 1);
            check.due("count(10)", x.count(10), n);
            check.due("beyond the last CELL", x.lay(0, n, 0), INDEX);
            check.due("the last CELL", x.lay(0, n - 1, 0), n == 0 ? INDEX : 1);
        }
    }

    private static void belowZeroIsSize() {
        check.promise("35: 4 SIZE (below 0): -10 - 4");
        UnreadScript x = new UnreadScript();
        for (int n : new int[] {-1, -2, -60, MIN, MIN + 1}) {
            for (int k = 0; k < 4; k++) check.due("sheet(" + k + ", 2, " + n + ")", x.sheet(k, 2, n), SIZE);
        }
        check.due("count(10)", x.count(10), NONE);
        x.sheet(0, 0, 7);
        check.due("sheet(0, 1, -1)", x.sheet(0, 1, -1), SIZE);
        check.due("what is refused changes nothing", x.count(10), 7);
    }

    private static void badAheadOfSize() {
        check.promise("35: BAD ahead of SIZE");
        UnreadScript x = new UnreadScript();
        for (int n : new int[] {-1, MIN}) {
            check.due("k 4", x.sheet(4, 0, n), BAD);
            check.due("k -1", x.sheet(-1, 0, n), BAD);
            check.due("lane 3", x.sheet(0, 3, n), BAD);
            check.due("lane -1", x.sheet(0, -1, n), BAD);
        }
    }

    /** CELL i of a SHEET of INTS as a TEXT would take it, where it is 0, 1 or one that no TEXT takes. */
    private static int cell(UnreadScript x, int k, int i) {
        int t = x.text(k, 2, i, 1);
        if (t < 0) return t;
        int found = x.textOf(t, 10);
        x.drop();
        return found;
    }

    private static void newRowOfCellsZero() {
        check.promise("35: a new row of CELLS 0");
        UnreadScript x = Scripts.withForms(2);
        x.sheet(2, 2, 60);
        for (int i = 0; i < 60; i++) check.due("CELL " + i, cell(x, 2, i), 0);
        for (int i = 0; i < 60; i++) x.lay(2, i, 1);
        for (int i = 0; i < 60; i++) check.due("CELL " + i, cell(x, 2, i), 1);
        x.sheet(2, 2, 60);
        for (int i = 0; i < 60; i++) check.due("CELL " + i, cell(x, 2, i), 0);
    }

    private static void newRowEachTime() {
        check.promise("35: a new row, shorter and longer than the one before");
        UnreadScript x = Scripts.withForms(2);
        x.sheet(0, 2, 3);
        x.lay(0, 2, 1);
        x.sheet(0, 2, 2);
        check.due("CELL 2 is none", cell(x, 0, 2), INDEX);
        x.sheet(0, 2, 3);
        check.due("CELL 2 is 0", cell(x, 0, 2), 0);
        x.sheet(0, 1, 3);
        check.due("another lane", cell(x, 0, 2), CAST);
        x.sheet(0, 2, 0);
        check.due("no CELLS", cell(x, 0, 0), INDEX);
    }

    private static void sheetsAreApart() {
        check.promise("35: A SHEET, not the others");
        UnreadScript x = Scripts.withForms(2);
        for (int k = 0; k < 4; k++) x.sheet(k, 2, 60);
        x.lay(1, 0, 1);
        x.lay(2, 59, 1);
        x.sheet(3, 0, 1);
        int[][] want = {{0, 0}, {1, 0}, {0, 1}};
        for (int k = 0; k < 3; k++) {
            check.due("first of " + k, cell(x, k, 0), want[k][0]);
            check.due("last of " + k, cell(x, k, 59), want[k][1]);
        }
        check.due("SHEET 3", cell(x, 3, 0), CAST);
        check.due("count(10)", x.count(10), 60);
    }

    // ---- Promise 36

    private static void layNoSuchSheet() {
        check.promise("36: BAD: k");
        UnreadScript x = new UnreadScript();
        for (int n = 0; n < 2; n++) {
            for (int k : new int[] {-1, 4, 5, MIN, MAX}) {
                check.due("lay(" + k + ", 0, 0)", x.lay(k, 0, 0), BAD);
                check.due("lay(" + k + ", -1, 0)", x.lay(k, -1, 0), BAD);
            }
            for (int k = 0; k < 4; k++) x.sheet(k, 0, 60);
        }
    }

    private static void layOnNothing() {
        check.promise("36: -10 less the FAULT: NULL");
        for (int k = 0; k < 4; k++) {
            UnreadScript x = new UnreadScript();
            for (int other = 0; other < 4; other++) {
                if (other != k) x.sheet(other, 0, 60);
            }
            check.due("lay(" + k + ", 0, 0)", x.lay(k, 0, 0), NULL);
            check.due("sheet", x.sheet(k, 0, -1), SIZE);
            check.due("nothing still", x.lay(k, 0, 0), NULL);
            x.sheet(k, 0, 1);
            check.due("lay(" + k + ", 0, 0)", x.lay(k, 0, 0), 1);
        }
    }

    private static void layBeyondTheSheet() {
        check.promise("36: INDEX");
        UnreadScript x = new UnreadScript();
        for (int n : new int[] {1, 2, 59, 60}) {
            x.sheet(1, 1, n);
            for (int i : new int[] {n, n + 1, 60, 61, -1, MIN, MAX}) {
                check.due(n + " CELLS, lay(1, " + i + ", 0)", x.lay(1, i, 0), INDEX);
            }
            check.due("the first", x.lay(1, 0, 0), 1);
            check.due("the last", x.lay(1, n - 1, 0), 1);
        }
    }

    private static void layOnASheetOfNoCells() {
        check.promise("36: INDEX, of a SHEET of 0 CELLS");
        UnreadScript x = new UnreadScript();
        x.sheet(0, 0, 0);
        for (int i : new int[] {0, 1, 59, -1, MIN, MAX}) check.due("lay(0, " + i + ", 0)", x.lay(0, i, 0), INDEX);
    }

    private static void nullAheadOfIndex() {
        check.promise("36: NULL ahead of INDEX");
        UnreadScript x = new UnreadScript();
        for (int i : new int[] {-1, 60, MIN, MAX}) check.due("lay(0, " + i + ", 0)", x.lay(0, i, 0), NULL);
    }

    /** Lays v on a SHEET of a lane, and looks at what a TEXT takes of it; NO_FORM where it takes none. */
    private static void kept(int lane, int v, int want) {
        UnreadScript x = Scripts.withForms(2);
        x.sheet(0, lane, 1);
        check.due("lay", x.lay(0, 0, v), 1);
        int t = x.text(0, lane, 0, 1);
        check.due("lane " + lane + ", " + v, t, want == NO_FORM ? NO_FORM : 0);
        if (t >= 0) check.due("lane " + lane + ", " + v, x.textOf(t, 10), want);
    }

    private static void bytesKeepTheirLowestBits() {
        check.promise("36: CELL i of a SHEET becomes v (its lowest bits): BYTES");
        for (int high : new int[] {0, 0x100, 0x8000, 0x10000, 0x7fffff00, MIN, 0xffffff00}) {
            kept(0, high, 0);
            kept(0, high | 1, 1);
            kept(0, high | 2, NO_FORM);
            kept(0, high | 0x7f, NO_FORM);
            kept(0, high | 0x80, NO_FORM);
            kept(0, high | 0x81, NO_FORM);
            kept(0, high | 0xfd, NO_FORM);
            kept(0, high | 0xfe, -2);
            kept(0, high | 0xff, -1);
        }
        kept(0, MAX, -1);
        kept(0, MIN, 0);
        kept(0, -1, -1);
    }

    private static void shortsKeepTheirLowestBits() {
        check.promise("36: (its lowest bits): SHORTS");
        for (int high : new int[] {0, 0x10000, 0x800000, 0x7fff0000, MIN, 0xffff0000}) {
            kept(1, high, 0);
            kept(1, high | 1, 1);
            kept(1, high | 0x100, NO_FORM);
            kept(1, high | 0x101, NO_FORM);
            kept(1, high | 0xff, NO_FORM);
            kept(1, high | 0xfe, NO_FORM);
            kept(1, high | 0x8000, NO_FORM);
            kept(1, high | 0x8001, NO_FORM);
            kept(1, high | 0x7fff, NO_FORM);
            kept(1, high | 0xfffd, NO_FORM);
            kept(1, high | 0xfffe, -2);
            kept(1, high | 0xffff, -1);
        }
        kept(1, MAX, -1);
        kept(1, MIN, 0);
    }

    private static void intsKeepAll() {
        check.promise("36: (its lowest bits): INTS");
        for (int v : new int[] {2, 0x100, 0x101, 0x10000, 0x10001, 0xff, 0xffff, 0xfffe, MAX, MIN, MIN + 1, -3}) {
            kept(2, v, NO_FORM);
        }
        kept(2, 0, 0);
        kept(2, 1, 1);
        kept(2, -1, -1);
        kept(2, -2, -2);
    }

    private static void layOneCellAlone() {
        check.promise("36: CELL i, not the others");
        UnreadScript x = Scripts.withForms(2);
        x.sheet(0, 2, 60);
        for (int i : new int[] {0, 30, 59}) x.lay(0, i, 1);
        for (int i = 0; i < 60; i++) check.due("CELL " + i, cell(x, 0, i), i == 0 || i == 30 || i == 59 ? 1 : 0);
        x.lay(0, 30, 0);
        check.due("once more", cell(x, 0, 30), 0);
    }

    // ---- Promise 37

    private static void countWithoutSuchNumber() {
        check.promise("37: BAD");
        for (UnreadScript x : new UnreadScript[] {new UnreadScript(), Scripts.full()}) {
            for (int what : new int[] {-1, 11, 12, MIN, MAX}) check.due("count(" + what + ")", x.count(what), BAD);
        }
    }

    private static void countUpToFull() {
        check.promise("37: How many, of none and of all");
        UnreadScript x = Scripts.full();
        int[] want = {24, 8, 192, 8, 4, 12, 20, 2, 99, 160, 60};
        int[] none = {0, 0, 0, 0, 0, 0, 0, 0, 0, 0, NONE};
        for (int what = 0; what <= 10; what++) {
            check.due("count(" + what + ")", x.count(what), want[what]);
            check.due("count(" + what + ") of none", new UnreadScript().count(what), none[what]);
        }
    }

    private static void countOfSheetZero() {
        check.promise("37: 10 CELLS of SHEET 0 (NONE: nothing)");
        UnreadScript x = new UnreadScript();
        for (int k = 1; k < 4; k++) {
            x.sheet(k, 0, 60);
            check.due("SHEET " + k, x.count(10), NONE);
        }
        x.sheet(0, 0, -1);
        check.due("of a size below 0", x.count(10), NONE);
        x.sheet(0, 0, 0);
        check.due("of 0 CELLS", x.count(10), 0);
        x.sheet(0, 0, 60);
        check.due("of 60 CELLS", x.count(10), 60);
        x.sheet(0, 0, 61);
        check.due("not of 61", x.count(10), 60);
    }

    private static void countOfSignsInTexts() {
        check.promise("37: 2 SIGNS in TEXTS, each time that one stands there, no gaps, no ends");
        UnreadScript x = Scripts.withForms(2);
        Scripts.text(x, ". .");
        check.due("none", x.count(2), 0);
        Scripts.text(x, "aa.b ");
        check.due("three", x.count(2), 3);
        x.drop();
        check.due("none", x.count(2), 0);
    }

    private static void countOfWithdrawnOnes() {
        check.promise("37: 6 CLAIMS, 7 withdrawn ones");
        UnreadScript x = new UnreadScript();
        Scripts.claims(x, "sign 1; sign 2 on 0; sign 3;");
        int[] want = {0, 2, 2, 3};
        check.due("count(7)", x.count(7), want[0]);
        for (int k = 0; k < 3; k++) {
            x.withdraw(k);
            check.due("count(7)", x.count(7), want[k + 1]);
            check.due("count(6)", x.count(6), 3);
        }
    }

    private static void lastCallOfAll() {
        check.promise("What it is: An object is used for at most 512 calls");
        UnreadScript x = Scripts.withForms(6);
        int used = 1 + 6;
        for (int t = 0; t < 8; t++) {
            Scripts.text(x, "abcdef abcdef abcdef abc");
            used += 1 + 24 + 1;
        }
        x.word(6, 4095);
        used++;
        while (used < 511) {
            check.due("best(255, 1)", x.best(255, 1), 24);
            used++;
        }
        check.due("the 512th", x.judge(255, 0, 1), 720);
    }
}
