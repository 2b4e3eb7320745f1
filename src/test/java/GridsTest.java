/** Promises 13 to 15: AKIN, APART, GRID. */
public final class GridsTest {
    private static final int BAD = -1;
    private static final Check check = new Check();

    public static void main(String[] args) {
        akin();
        apart();
        grid();
        gridAgain();
        gridOfMany();
        check.finish();
    }

    private static void akin() {
        check.promise("promise 13");
        UnreadScript x = Scripts.withForms(5);
        check.due("akin of no words", x.akin(0, 1), 0);
        Scripts.text(x, "abc abd abc abd");
        check.due("each row once", x.akin(2, 3), 1);
        check.due("both ways", x.akin(3, 2), 1);
        Scripts.text(x, "bc bd be a.c a.d");
        check.due("another stem", x.akin(2, 3), 2);
        check.due("c, e", x.akin(2, 4), 1);
        check.due("d, e", x.akin(3, 4), 1);
        Scripts.text(x, "a b c d e");
        check.due("words of one cell", x.akin(0, 1), 0);
        Scripts.text(x, "aab aac bbd cbe");
        check.due("b, c", x.akin(1, 2), 1);
        check.due("unlike elsewhere too", x.akin(3, 4), 1);
        Scripts.text(x, "abcd abce abb");
        check.due("of other lengths", x.akin(1, 2), 2);
        check.due("abcd, abce", x.akin(3, 4), 2);
        Scripts.text(x, "da db");
        check.due("a as last sign", x.akin(0, 1), 1);
        check.due("one and the same", x.akin(2, 2), BAD);
        check.due("a 5", x.akin(5, 2), BAD);
        check.due("b -1", x.akin(2, -1), BAD);
        x.form(449);
        x.likeness(1);
        check.due("no sign", x.akin(2, 5), BAD);
        Scripts.text(x, "abf");
        check.due("f is d", x.akin(2, 3), 2);
        x.likeness(0);
        check.due("f alone", x.akin(2, 5), 1);
        check.due("d, f", x.akin(5, 3), 1);
        for (int n = 0; n < 7; n++) x.drop();
        check.due("no words any longer", x.count(1), 0);
        check.due("c, d", x.akin(2, 3), 0);
    }

    private static void apart() {
        check.promise("promise 14");
        UnreadScript x = Scripts.withForms(3);
        check.due("apart(0, 1, 9)", x.apart(0, 1, 9), 0);
        check.due("apart(1, 0, 0)", x.apart(1, 0, 0), 9);
        check.due("apart(0, 1, 3)", x.apart(0, 1, 3), 0);
        check.due("v 10", x.apart(0, 1, 10), BAD);
        check.due("v -1", x.apart(0, 1, -1), BAD);
        check.due("one form", x.apart(1, 1, 2), BAD);
        check.due("a -1", x.apart(-1, 1, 2), BAD);
        check.due("b 3", x.apart(1, 3, 2), BAD);
        check.due("apart(0, 2, 1)", x.apart(0, 2, 1), 0);
        check.due("kept", x.apart(0, 1, 3), 3);
        x.likeness(12);
        check.due("told of forms, though of one sign", x.apart(1, 2, 4), 0);
        check.due("one sign is not apart", x.grid(1, 1), 0);
        UnreadScript y = new UnreadScript();
        y.form(0);
        y.form(1);
        y.form(63);
        y.apart(0, 1, 5);
        y.apart(2, 1, 3);
        check.due("nor is it from itself", y.grid(1, 0), 3);
        check.due("nor is it from itself", y.grid(2, 0), 0);
        check.due("the other form's is the sign's", y.grid(2, 10), 0);
        x.likeness(0);
        check.due("told", x.apart(2, 1, 4), 4);
    }

    private static void grid() {
        check.promise("promise 15");
        UnreadScript x = Scripts.withForms(6);
        for (int rows = 1; rows < 4; rows++) {
            check.due("quarrel of none", x.grid(rows, 0), 0);
            check.due("signs of none", x.grid(rows, 1), 0);
            check.due("sign 0 of none", x.grid(rows, 10), BAD);
            check.due("row 0 of none", x.grid(rows, 30), BAD);
        }
        check.due("rows 0", x.grid(0, 0), BAD);
        check.due("rows 4", x.grid(4, 0), BAD);
        x.apart(1, 3, 2);
        x.apart(3, 5, 4);
        x.apart(1, 5, 3);
        int[] least = {9, 2, 0};
        int[][] rowsDue = {{0, 0, 0}, {0, 0, 1}, {0, 1, 2}};
        for (int rows = 1; rows < 4; rows++) {
            check.due("quarrel", x.grid(rows, 0), least[rows - 1]);
            check.due("signs", x.grid(rows, 1), 3);
            for (int i = 0; i < 3; i++) {
                check.due("sign", x.grid(rows, 10 + i), 2 * i + 1);
                check.due("row", x.grid(rows, 30 + i), rowsDue[rows - 1][i]);
            }
        }
        int[] bad = {-1, 2, 9, 13, 29, 33, Integer.MAX_VALUE, Integer.MIN_VALUE};
        for (int what : bad) check.due("what " + what, x.grid(2, what), BAD);
        Scripts.text(x, "ab ad af cb cd cf eb ed");
        // Now b and d are AKIN by 3, b and f by 2, d and f by 2.
        check.due("akin against apart", x.grid(2, 0), 6);
        check.due("row of b", x.grid(2, 30), 0);
        check.due("row of d", x.grid(2, 31), 0);
        check.due("row of f", x.grid(2, 32), 1);
        x.form(9);
        x.apart(1, 6, 9);
        x.likeness(1);
        check.due("greatest told of any forms", x.grid(3, 0), 6);
        x.form(6);
        x.likeness(1);
        x.apart(7, 3, 9);
        check.due("told of forms of two signs", x.grid(1, 0), 9 + 4 + 3 + 9);
        x.apart(7, 3, 0);
        check.due("taken back", x.grid(1, 0), 2 + 4 + 3 + 9);
    }

    private static void gridAgain() {
        UnreadScript x = Scripts.withForms(9);
        x.apart(0, 1, 5);
        check.due("two", x.grid(1, 1), 2);
        check.due("quarrel", x.grid(1, 0), 5);
        x.apart(1, 0, 0);
        check.due("none any longer", x.grid(1, 1), 0);
        Scripts.text(x, "ca cb");
        check.due("akin by one", x.grid(3, 1), 2);
        check.due("quarrel", x.grid(3, 0), 0);
        check.due("sign a", x.grid(3, 10), 0);
        check.due("one row", x.grid(3, 31), 0);
        x.apart(0, 1, 2);
        check.due("quarrel", x.grid(3, 0), 1);
        check.due("two rows", x.grid(3, 31), 1);
        x.drop();
        for (int f = 1; f < 8; f++) x.apart(0, f, 9);
        check.due("a from all others", x.grid(1, 0), 63);
        check.due("a from all others", x.grid(2, 0), 0);
        check.due("the eighth", x.grid(2, 37), 1);
        for (int f = 2; f < 8; f++) x.apart(0, f, 0);
        check.due("two left", x.grid(1, 1), 2);
        check.due("two left", x.grid(1, 0), 9);
        check.due("two left", x.grid(2, 31), 1);
    }

    private static void gridOfMany() {
        UnreadScript x = Scripts.withForms(24);
        for (int f = 23; f > 0; f -= 2) x.apart(f, f - 1 & 22, 1);
        check.due("at most 8", x.grid(2, 1), 8);
        for (int i = 0; i < 8; i++) check.due("by number", x.grid(2, 10 + i), i);
        check.due("no ninth", x.grid(2, 18), BAD);
        check.due("no row of a ninth", x.grid(2, 38), BAD);
        check.due("quarrel", x.grid(2, 0), 0);
        for (int i = 0; i < 8; i++) check.due("rows", x.grid(2, 30 + i), i & 1);
        check.due("one row", x.grid(1, 0), 4);
        // A SIGN counts as bound by one that is beyond the eight.
        UnreadScript y = Scripts.withForms(24);
        for (int f = 0; f < 9; f++) y.apart(f, 23, 9);
        check.due("eight", y.grid(1, 1), 8);
        check.due("all in one row", y.grid(1, 0), 0);
        check.due("the eighth", y.grid(1, 17), 7);
    }
}
