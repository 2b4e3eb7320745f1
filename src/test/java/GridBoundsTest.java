/** Promises 13 to 15: a test for each sentence that names a boundary. */
public final class GridBoundsTest {
    private static final int BAD = -1;
    private static final int MIN = Integer.MIN_VALUE, MAX = Integer.MAX_VALUE;
    private static final Check check = new Check();

    public static void main(String[] args) {
        akinNoSign();
        akinOneAndTheSame();
        akinOfNoWords();
        stemsOfTwoCellsOrMore();
        stemsOfWholeWords();
        stemsUnlikeInTheLastAlone();
        stemsOverAllTexts();
        eachRowOnce();
        longestStems();
        mostStems();
        apartNoForm();
        apartOneForm();
        apartIsZeroToNine();
        apartToldOfTwoForms();
        apartToldWithinOneSign();
        apartTheGreatestTold();
        gridRowsOneToThree();
        gridWithoutSuchNumber();
        gridOfNoSigns();
        gridOfBoundSignsAlone();
        gridOfEightSigns();
        gridBoundByOneBeyond();
        quarrelOfOneRow();
        quarrelOfAkin();
        quarrelOfEachPairByItself();
        quarrelAtTheMost();
        leastRowsOfSeveral();
        leastQuarrelAheadOfLeastRows();
        check.finish();
    }

    // ---- Promise 13

    private static void akinNoSign() {
        check.promise("13: BAD");
        UnreadScript x = new UnreadScript();
        check.due("no FORMS", x.akin(0, 1), BAD);
        x.form(0);
        check.due("one FORM", x.akin(0, 1), BAD);
        x.form(1);
        x.form(6);
        for (int s : new int[] {1, 3, 24, -1, -2, MIN, MAX}) {
            check.due("akin(" + s + ", 0)", x.akin(s, 0), BAD);
            check.due("akin(2, " + s + ")", x.akin(2, s), BAD);
        }
        check.due("akin(0, 2)", x.akin(0, 2), 0);
    }

    private static void akinOneAndTheSame() {
        check.promise("13: BAD: also one and the same");
        UnreadScript x = Scripts.withForms(3);
        Scripts.text(x, "ab ac");
        for (int s = 0; s < 3; s++) check.due("akin(" + s + ", " + s + ")", x.akin(s, s), BAD);
        check.due("akin(1, 2)", x.akin(1, 2), 1);
    }

    private static void akinOfNoWords() {
        check.promise("13: (at first by 0)");
        UnreadScript x = Scripts.withForms(24);
        check.due("no TEXTS", x.akin(0, 23), 0);
        Scripts.text(x, "  ");
        check.due("no WORDS", x.akin(23, 0), 0);
        Scripts.text(x, "ab");
        check.due("one WORD", x.akin(1, 0), 0);
    }

    private static void akinIs(int want, String... texts) {
        UnreadScript x = Scripts.withForms(4);
        for (String text : texts) Scripts.text(x, text);
        check.due("akin of " + String.join("|", texts), x.akin(0, 1), want);
        check.due("akin back of " + String.join("|", texts), x.akin(1, 0), want);
    }

    private static void stemsOfTwoCellsOrMore() {
        check.promise("13: two WHOLE WORDS (of 2 CELLS or more)");
        akinIs(0, "a b");
        akinIs(1, "aa ab");
        akinIs(1, "ca cb a b");
        akinIs(0, "a ab");
        akinIs(0, "ca b");
    }

    private static void stemsOfWholeWords() {
        check.promise("13: two WHOLE WORDS");
        akinIs(0, "c.a c.b");
        akinIs(0, ".ca .cb");
        akinIs(0, "ca. cb.");
        akinIs(0, ".a .b");
        akinIs(0, "ca cb.");
        akinIs(0, "ca .cb");
        akinIs(1, ". ca cb .");
    }

    private static void stemsUnlikeInTheLastAlone() {
        check.promise("13: unlike in their last SIGN alone");
        akinIs(1, "ca cb da");
        akinIs(0, "ca db");
        akinIs(0, "cca cdb");
        akinIs(0, "ca ccb");
        akinIs(0, "ac bc");
        akinIs(1, "abca abcb");
        akinIs(0, "ca ca");
        akinIs(2, "ca cb da db");
    }

    private static void stemsOverAllTexts() {
        check.promise("13: WORDS of all TEXTS");
        akinIs(1, "ca", "cb");
        akinIs(1, "ca", "d", "", "d", "cb");
        akinIs(0, "c", "a", "c", "b");
    }

    private static void eachRowOnce() {
        check.promise("13: as rows of SIGNS; each such row once");
        akinIs(1, "ca cb ca cb", "cb ca", "ca", "cb");
        UnreadScript x = new UnreadScript();
        for (int features : new int[] {0, 6, 24, 25}) x.form(features);
        Scripts.text(x, "ca da cb db");
        check.due("FORMS of one SIGN", x.akin(0, 1), 1);
        x.likeness(0);
        check.due("each a SIGN", x.akin(0, 1), 2);
    }

    private static void longestStems() {
        check.promise("13: WORDS of 24 CELLS");
        akinIs(1, "abcdabcdabcdabcdabcdabca", "abcdabcdabcdabcdabcdabcb");
        akinIs(0, "abcdabcdabcdabcdabcdabca", "bbcdabcdabcdabcdabcdabcb");
        akinIs(0, "abcdabcdabcdabcdabcdabca", "abcdabcdabcdabcdabcdabbb");
    }

    private static void mostStems() {
        check.promise("13: AKIN by one more for each pair");
        UnreadScript x = Scripts.withForms(24);
        for (int t = 0; t < 6; t++) {
            StringBuilder told = new StringBuilder();
            for (int s = 4 * t; s < 4 * t + 4; s++) {
                told.append((char) ('a' + s)).append("a ").append((char) ('a' + s)).append("x ");
            }
            check.due("text", Scripts.text(x, told.toString()), t);
        }
        check.due("24 STEMS", x.akin(0, 23), 24);
        check.due("quarrel of two rows told apart", x.apart(0, 23, 9), 0);
        check.due("grid(2, 0)", x.grid(2, 0), 9);
        check.due("grid(2, 31)", x.grid(2, 31), 0);
    }

    // ---- Promise 14

    private static void apartNoForm() {
        check.promise("14: BAD");
        UnreadScript x = new UnreadScript();
        check.due("no FORMS", x.apart(0, 1, 1), BAD);
        x.form(0);
        check.due("one FORM", x.apart(0, 1, 1), BAD);
        x.form(7);
        for (int f : new int[] {2, 24, -1, MIN, MAX}) {
            check.due("apart(" + f + ", 0, 1)", x.apart(f, 0, 1), BAD);
            check.due("apart(1, " + f + ", 1)", x.apart(1, f, 1), BAD);
        }
        check.due("apart(0, 1, 1)", x.apart(0, 1, 1), 0);
        UnreadScript y = Scripts.withForms(24);
        check.due("apart(23, 22, 1)", y.apart(23, 22, 1), 0);
        check.due("apart(23, 24, 1)", y.apart(23, 24, 1), BAD);
    }

    private static void apartOneForm() {
        check.promise("14: BAD: also they are one");
        UnreadScript x = Scripts.withForms(3);
        for (int f = 0; f < 3; f++) check.due("apart(" + f + ", " + f + ", 1)", x.apart(f, f, 1), BAD);
        check.due("grid(1, 1)", x.grid(1, 1), 0);
    }

    private static void apartIsZeroToNine() {
        check.promise("14: told by hand (0 to 9); what was told of these");
        UnreadScript x = Scripts.withForms(2);
        int was = 0;
        for (int v : new int[] {9, 0, 1, 8, 9}) {
            check.due("apart " + v, x.apart(0, 1, v), was);
            check.due("grid(1, 0)", x.grid(1, 0), v);
            was = v;
        }
        for (int v : new int[] {-1, 10, MIN, MAX}) check.due("apart " + v, x.apart(0, 1, v), BAD);
        check.due("what is refused changes nothing", x.grid(1, 0), 9);
        check.due("nor what was told", x.apart(1, 0, 0), 9);
    }

    private static void apartToldOfTwoForms() {
        check.promise("14: it is told of these two FORMS");
        UnreadScript x = new UnreadScript();
        for (int features : new int[] {0, 1, 126, 127}) x.form(features);
        check.due("apart(0, 2, 3)", x.apart(0, 2, 3), 0);
        check.due("others of the same SIGNS", x.apart(1, 3, 2), 0);
        check.due("others still", x.apart(0, 3, 0), 0);
        check.due("these", x.apart(2, 0, 5), 3);
        check.due("those", x.apart(3, 1, 5), 2);
    }

    private static void apartToldWithinOneSign() {
        check.promise("14: two FORMS of one SIGN");
        UnreadScript x = new UnreadScript();
        x.form(0);
        x.form(1);
        check.due("apart(0, 1, 7)", x.apart(0, 1, 7), 0);
        check.due("one SIGN is not APART", x.grid(1, 1), 0);
        x.likeness(0);
        check.due("two are", x.grid(1, 0), 7);
        check.due("two are", x.grid(1, 1), 2);
    }

    private static void apartTheGreatestTold() {
        check.promise("14: of two SIGNS the greatest told of any of their FORMS");
        UnreadScript x = new UnreadScript();
        for (int features : new int[] {0, 1, 126, 127}) x.form(features);
        x.apart(0, 2, 3);
        check.due("of the least FORMS", x.grid(1, 0), 3);
        x.apart(3, 1, 4);
        check.due("of the others", x.grid(1, 0), 4);
        x.apart(1, 2, 2);
        check.due("less is not the greatest", x.grid(1, 0), 4);
        x.apart(1, 3, 0);
        check.due("taken back", x.grid(1, 0), 3);
        x.likeness(0);
        check.due("each FORM by itself", x.grid(1, 0), 5);
        x.likeness(12);
        check.due("all one SIGN", x.grid(1, 1), 0);
    }

    // ---- Promise 15

    private static void gridRowsOneToThree() {
        check.promise("15: R rows (1 to 3); BAD");
        UnreadScript x = Scripts.withForms(4);
        for (int a = 0; a < 4; a++) {
            for (int b = 0; b < a; b++) x.apart(a, b, 1);
        }
        int[] want = {6, 2, 1};
        for (int rows = 1; rows <= 3; rows++) check.due("grid(" + rows + ", 0)", x.grid(rows, 0), want[rows - 1]);
        for (int rows : new int[] {0, 4, -1, 8, MIN, MAX}) {
            for (int what : new int[] {0, 1, 10, 30, 99}) check.due("rows " + rows, x.grid(rows, what), BAD);
        }
    }

    private static void gridWithoutSuchNumber() {
        check.promise("15: BAD");
        UnreadScript x = Scripts.withForms(9);
        for (int n = 0; n <= 8; n++) {
            if (n > 0) x.apart(0, n, 1);
            int size = n == 0 ? 0 : Math.min(8, n + 1);
            check.due("grid(1, 1)", x.grid(1, 1), size);
            for (int what : new int[] {-1, 2, 9, 10 + size, 18, 29, 30 + size, 38, 39, MIN, MAX}) {
                check.due("size " + size + " what " + what, x.grid(1, what), BAD);
            }
            if (size == 0) continue;
            check.due("the first SIGN", x.grid(1, 10), 0);
            check.due("the last SIGN", x.grid(1, 9 + size), size - 1);
            check.due("the row of the first", x.grid(1, 30), 0);
            check.due("the row of the last", x.grid(1, 29 + size), 0);
        }
    }

    private static void gridOfNoSigns() {
        check.promise("15: GRID of no SIGNS");
        for (UnreadScript x : new UnreadScript[] {new UnreadScript(), Scripts.withForms(1), Scripts.withForms(24)}) {
            for (int rows = 1; rows <= 3; rows++) {
                check.due("QUARREL", x.grid(rows, 0), 0);
                check.due("SIGNS", x.grid(rows, 1), 0);
                for (int what : new int[] {10, 17, 30, 37}) check.due("what " + what, x.grid(rows, what), BAD);
            }
        }
    }

    private static void gridOfBoundSignsAlone() {
        check.promise("15: those that are AKIN to any, or APART from any");
        UnreadScript x = Scripts.withForms(8);
        x.apart(6, 2, 1);
        Scripts.text(x, "ee eh");
        int[] want = {2, 4, 6, 7};
        check.due("SIGNS", x.grid(2, 1), 4);
        for (int i = 0; i < 4; i++) check.due("SIGN " + i, x.grid(2, 10 + i), want[i]);
        x.apart(2, 6, 0);
        check.due("APART by 0 is not APART", x.grid(2, 1), 2);
        check.due("SIGN 0", x.grid(2, 10), 4);
        check.due("SIGN 1", x.grid(2, 11), 7);
        x.drop();
        check.due("none left", x.grid(2, 1), 0);
        Scripts.text(x, "ab cd ad cb. c d");
        check.due("b, d", x.grid(2, 1), 2);
        check.due("SIGN 0", x.grid(2, 10), 1);
        check.due("SIGN 1", x.grid(2, 11), 3);
        x.drop();
        Scripts.text(x, "ab cd ef");
        check.due("WORDS, but no STEMS", x.grid(2, 1), 0);
    }

    private static void gridOfEightSigns() {
        check.promise("15: (at most 8, the first by number)");
        UnreadScript x = Scripts.withForms(24);
        for (int f = 23; f > 0; f--) x.apart(f, f - 1, 9);
        check.due("SIGNS", x.grid(3, 1), 8);
        for (int i = 0; i < 8; i++) check.due("SIGN " + i, x.grid(3, 10 + i), i);
        check.due("SIGN 8", x.grid(3, 18), BAD);
        check.due("QUARREL of these alone", x.grid(1, 0), 63);
        UnreadScript y = Scripts.withForms(24);
        for (int f = 9; f < 24; f += 2) y.apart(f, f - 1, 1);
        for (int i = 0; i < 8; i++) check.due("SIGN " + i, y.grid(1, 10 + i), 8 + i);
    }

    private static void gridBoundByOneBeyond() {
        check.promise("15: AKIN to any, APART from any, though that is not of the 8");
        UnreadScript x = Scripts.withForms(12);
        for (int f = 0; f < 8; f++) x.apart(f, 8 + f % 4, 9);
        check.due("SIGNS", x.grid(1, 1), 8);
        check.due("QUARREL", x.grid(1, 0), 0);
        for (int i = 0; i < 8; i++) check.due("row of SIGN " + i, x.grid(3, 30 + i), 0);
    }

    private static void quarrelOfOneRow() {
        check.promise("15: QUARREL: of APART of those that are in one row");
        UnreadScript x = Scripts.withForms(3);
        Scripts.text(x, "ca cb");
        x.apart(0, 1, 5);
        x.apart(1, 2, 2);
        check.due("AKIN in one row is no QUARREL", x.grid(1, 0), 7);
        check.due("AKIN in two rows is", x.grid(2, 0), 1);
        check.due("AKIN in two rows is", x.grid(3, 0), 1);
    }

    private static void quarrelOfAkin() {
        check.promise("15: QUARREL: the sum of AKIN of all pairs that are not in one row");
        UnreadScript x = Scripts.withForms(4);
        Scripts.text(x, "ca cb da db");
        x.apart(0, 1, 1);
        check.due("APART by less than AKIN", x.grid(2, 0), 1);
        check.due("one row", x.grid(2, 31), 0);
        x.apart(0, 1, 2);
        check.due("APART by as much: the least rows", x.grid(2, 0), 2);
        check.due("one row", x.grid(2, 31), 0);
        x.apart(0, 1, 3);
        check.due("APART by more", x.grid(2, 0), 2);
        check.due("two rows", x.grid(2, 31), 1);
    }

    private static void quarrelOfEachPairByItself() {
        check.promise("15: QUARREL: AKIN of each pair by itself");
        UnreadScript x = Scripts.withForms(6);
        Scripts.text(x, "da db ea eb fa fc");
        // a and b by 2, a and c by 1, b and c by none.
        for (int f = 0; f < 3; f++) x.apart(f, (f + 1) % 3, 9);
        check.due("three rows", x.grid(3, 0), 3);
        x.apart(0, 1, 0);
        check.due("c by itself", x.grid(2, 0), 1);
        check.due("row of c", x.grid(2, 32), 1);
        x.apart(0, 1, 9);
        x.apart(1, 2, 0);
        check.due("a by itself", x.grid(2, 0), 3);
        check.due("row of b", x.grid(2, 31), 1);
        check.due("row of c", x.grid(2, 32), 1);
    }

    private static void quarrelAtTheMost() {
        check.promise("15: QUARREL of 8 SIGNS, each APART from each by 9");
        UnreadScript x = Scripts.withForms(8);
        for (int a = 0; a < 8; a++) {
            for (int b = 0; b < a; b++) x.apart(a, b, 9);
        }
        // Rows of 8; of 4 and 4; of 3, 3 and 2.
        int[] want = {28 * 9, 12 * 9, 7 * 9};
        for (int rows = 1; rows <= 3; rows++) check.due("grid(" + rows + ", 0)", x.grid(rows, 0), want[rows - 1]);
        int[] two = {0, 0, 0, 0, 1, 1, 1, 1};
        int[] three = {0, 0, 0, 1, 1, 1, 2, 2};
        for (int i = 0; i < 8; i++) {
            check.due("of two rows that of SIGN " + i, x.grid(2, 30 + i), two[i]);
            check.due("of three rows that of SIGN " + i, x.grid(3, 30 + i), three[i]);
        }
    }

    private static void leastRowsOfSeveral() {
        check.promise("15: of several GRIDS the one whose rows, SIGN by SIGN, are the least numbers");
        UnreadScript x = Scripts.withForms(4);
        x.apart(0, 3, 1);
        x.apart(1, 2, 1);
        int[] want = {0, 0, 1, 1};
        for (int rows = 2; rows <= 3; rows++) {
            for (int i = 0; i < 4; i++) check.due("row of SIGN " + i, x.grid(rows, 30 + i), want[i]);
        }
        x.apart(0, 1, 1);
        int[] ring = {0, 1, 0, 1};
        for (int i = 0; i < 4; i++) check.due("row of SIGN " + i, x.grid(2, 30 + i), ring[i]);
    }

    private static void leastQuarrelAheadOfLeastRows() {
        check.promise("15: The least QUARREL");
        UnreadScript x = Scripts.withForms(3);
        x.apart(0, 1, 2);
        x.apart(0, 2, 2);
        x.apart(1, 2, 1);
        int[] two = {0, 1, 1};
        int[] three = {0, 1, 2};
        check.due("grid(2, 0)", x.grid(2, 0), 1);
        check.due("grid(3, 0)", x.grid(3, 0), 0);
        for (int i = 0; i < 3; i++) {
            check.due("of two rows that of SIGN " + i, x.grid(2, 30 + i), two[i]);
            check.due("of three rows that of SIGN " + i, x.grid(3, 30 + i), three[i]);
        }
    }
}
