/** Promises 16 to 18: ACCOUNTS, VALUES. */
public final class NumbersTest {
    private static final int BAD = -1, FULL = -3, NONE = -4;
    private static final Check check = new Check();

    public static void main(String[] args) {
        account();
        values();
        sure();
        check.finish();
    }

    private static int marks(int a, int b, int c, int d) {
        return a + 32 * b + 1024 * c + 32768 * d;
    }

    private static void account() {
        check.promise("promise 16");
        UnreadScript x = new UnreadScript();
        check.due("items below 0", x.account(-1, 0), BAD);
        check.due("total below 0", x.account(0, -1), BAD);
        check.due("items MIN", x.account(Integer.MIN_VALUE, 0), BAD);
        check.due("anything else", x.account(1 << 20, 0), BAD);
        check.due("anything else in total", x.account(0, 1 << 20), BAD);
        check.due("total MAX", x.account(0, Integer.MAX_VALUE), BAD);
        for (int m = 0; m < 4; m++) {
            check.due("21", x.account(21 << 5 * m, 0), BAD);
            check.due("21", x.account(0, 21 << 5 * m), BAD);
            check.due("31", x.account(31 << 5 * m, 0), BAD);
        }
        check.due("count(3)", x.count(3), 0);
        int all = marks(20, 20, 20, 20);
        for (int a = 0; a < 8; a++) check.due("account", x.account(all, all), a);
        check.due("a ninth", x.account(0, 0), FULL);
        check.due("a bad ninth", x.account(21, 0), BAD);
        check.due("count(3)", x.count(3), 8);
        check.due("values(0)", x.values(0), 1680);
    }

    private static void values() {
        check.promise("promise 17");
        UnreadScript x = new UnreadScript();
        int[] first = {1680, 1, 2, 4, 5};
        for (int what = 0; what < 5; what++) check.due("values of none", x.values(what), first[what]);
        check.due("values(5)", x.values(5), BAD);
        check.due("values(-1)", x.values(-1), BAD);
        // Two of MARK 0 are one of MARK 1: 1 2, 2 4, 5 10, 6 12; 30 rows each.
        x.account(marks(2, 0, 0, 0), marks(0, 1, 0, 0));
        check.due("values(0)", x.values(0), 4 * 30);
        // MARK 2 and MARK 0 are MARK 3: with 1 2: 4 5, 5 6; with 2 4: none of 4, 10 12; with 5: 1 6; with 6: 4 10.
        x.account(marks(1, 0, 1, 0), marks(0, 0, 0, 1));
        check.due("values(0)", x.values(0), 5);
        int[] row = {1, 2, 4, 5};
        for (int m = 0; m < 4; m++) check.due("values", x.values(m + 1), row[m]);
        x.account(marks(0, 0, 0, 6), marks(0, 0, 15, 0));
        check.due("values(0)", x.values(0), 1);
        int[] last = {6, 12, 4, 10};
        for (int m = 0; m < 4; m++) check.due("values", x.values(m + 1), last[m]);
        x.account(marks(1, 0, 0, 0), 0);
        check.due("none fits", x.values(0), 0);
        for (int m = 1; m < 5; m++) check.due("none fits", x.values(m), NONE);
        check.due("bad ahead of none", x.values(5), BAD);
        UnreadScript y = new UnreadScript();
        y.account(marks(20, 20, 20, 0), marks(0, 0, 0, 3));
        // Twenty of three MARKS are three of 60: the others are 9 in all, 1 2 6 in any order.
        y.account(marks(20, 0, 0, 0), marks(0, 0, 0, 2));
        check.due("values(0) of greatest sums", y.values(0), 2);
        check.due("values(1)", y.values(1), 6);
        check.due("values(2)", y.values(2), 1);
        check.due("values(4)", y.values(4), 60);
    }

    private static void sure() {
        check.promise("promise 18");
        UnreadScript x = new UnreadScript();
        for (int m = 0; m < 4; m++) check.due("sure of none", x.sure(m), 8);
        check.due("sure(-1)", x.sure(-1), BAD);
        check.due("sure(4)", x.sure(4), BAD);
        x.account(marks(2, 0, 0, 0), marks(0, 1, 0, 0));
        check.due("sure(0)", x.sure(0), 4);
        check.due("sure(1)", x.sure(1), 4);
        check.due("sure(2)", x.sure(2), 8);
        x.account(marks(1, 0, 1, 0), marks(0, 0, 0, 1));
        int[] seen = {4, 4, 4, 4};
        for (int m = 0; m < 4; m++) check.due("sure(" + m + ")", x.sure(m), seen[m]);
        x.account(marks(1, 0, 0, 0), 0);
        for (int m = 0; m < 4; m++) check.due("none fits", x.sure(m), 0);
    }
}
