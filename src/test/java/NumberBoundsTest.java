/** Promises 16 to 18: a test for each sentence that names a boundary. */
public final class NumberBoundsTest {
    private static final int BAD = -1, FULL = -3, NONE = -4;
    private static final int MIN = Integer.MIN_VALUE, MAX = Integer.MAX_VALUE;
    private static final int[] LIST = {1, 2, 4, 5, 6, 10, 12, 60};
    private static final Check check = new Check();

    public static void main(String[] args) {
        upToTwentyOfEachMark();
        noneBelowZero();
        nothingElseInIt();
        accountsAreEight();
        badAheadOfFull();
        valuesWithoutSuchNumber();
        valuesOfNoAccounts();
        valuesOfAnEmptyAccount();
        badAheadOfNone();
        noneFits();
        noTwoAlike();
        eachOfTheList();
        firstAndLastOfTheList();
        inOrderOfRows();
        eachAccountAddsUp();
        greatestSums();
        sureWithoutSuchMark();
        sureOfNoAccounts();
        sureFromNoneToEight();
        check.finish();
    }

    // ---- Promise 16

    private static void upToTwentyOfEachMark() {
        check.promise("16: BAD: one above 20");
        for (int mark = 0; mark < 4; mark++) {
            UnreadScript x = new UnreadScript();
            for (int n = 21; n < 32; n++) {
                check.due(n + " of MARK " + mark, x.account(n << 5 * mark, 0), BAD);
                check.due(n + " of MARK " + mark + " in total", x.account(0, n << 5 * mark), BAD);
            }
            int all = Scripts.marks(20, 20, 20, 20);
            check.due("one above of all", x.account(all + (1 << 5 * mark), all), BAD);
            check.due("one above of all in total", x.account(all, all + (1 << 5 * mark)), BAD);
            check.due("count(3)", x.count(3), 0);
            check.due("20 of MARK " + mark, x.account(20 << 5 * mark, 0), 0);
            check.due("20 of MARK " + mark + " in total", x.account(0, 20 << 5 * mark), 1);
            check.due("20 of all", x.account(all, all), 2);
            check.due("none of all", x.account(0, 0), 3);
        }
    }

    private static void noneBelowZero() {
        check.promise("16: BAD: below 0");
        UnreadScript x = new UnreadScript();
        for (int n : new int[] {-1, -32, -1024, -32768, MIN, MIN + 1}) {
            check.due("items " + n, x.account(n, 0), BAD);
            check.due("total " + n, x.account(0, n), BAD);
        }
        check.due("count(3)", x.count(3), 0);
    }

    private static void nothingElseInIt() {
        check.promise("16: BAD: anything else in it");
        UnreadScript x = new UnreadScript();
        for (int bit = 20; bit < 31; bit++) {
            check.due("bit " + bit, x.account(1 << bit, 0), BAD);
            check.due("bit " + bit + " of total", x.account(1, 1 << bit | 1), BAD);
        }
        check.due("MAX", x.account(MAX, 0), BAD);
        check.due("MAX of total", x.account(0, MAX), BAD);
        check.due("count(3)", x.count(3), 0);
        check.due("bit 19", x.account(1 << 19, 1 << 19), 0);
    }

    private static void accountsAreEight() {
        check.promise("16: ACCOUNTS (8); FULL");
        UnreadScript x = new UnreadScript();
        for (int a = 0; a < 8; a++) check.due("account", x.account(a, a), a);
        check.due("the ninth", x.account(0, 0), FULL);
        check.due("the ninth that would not fit", x.account(1, 0), FULL);
        check.due("count(3)", x.count(3), 8);
        check.due("values(0)", x.values(0), 1680);
    }

    private static void badAheadOfFull() {
        check.promise("16: BAD ahead of FULL");
        UnreadScript x = new UnreadScript();
        for (int a = 0; a < 8; a++) x.account(0, 0);
        check.due("21", x.account(21, 0), BAD);
        check.due("21 in total", x.account(0, 21), BAD);
        check.due("below 0", x.account(-1, 0), BAD);
        check.due("anything else", x.account(0, 1 << 20), BAD);
    }

    // ---- Promise 17

    private static void valuesWithoutSuchNumber() {
        check.promise("17: BAD");
        UnreadScript x = new UnreadScript();
        for (int what : new int[] {-1, 5, 6, MIN, MAX}) check.due("values(" + what + ")", x.values(what), BAD);
    }

    private static void valuesOfNoAccounts() {
        check.promise("17: no ACCOUNTS: all rows fit");
        UnreadScript x = new UnreadScript();
        int[] want = {8 * 7 * 6 * 5, 1, 2, 4, 5};
        for (int what = 0; what < 5; what++) check.due("values(" + what + ")", x.values(what), want[what]);
    }

    private static void valuesOfAnEmptyAccount() {
        check.promise("17: an ACCOUNT of no MARKS adds up");
        UnreadScript x = new UnreadScript();
        x.account(0, 0);
        check.due("values(0)", x.values(0), 1680);
        x.account(Scripts.marks(20, 20, 20, 20), Scripts.marks(20, 20, 20, 20));
        check.due("values(0)", x.values(0), 1680);
    }

    private static void badAheadOfNone() {
        check.promise("17: BAD ahead of NONE");
        UnreadScript x = new UnreadScript();
        x.account(1, 0);
        for (int what : new int[] {-1, 5, MIN, MAX}) check.due("values(" + what + ")", x.values(what), BAD);
    }

    private static void noneFits() {
        check.promise("17: NONE: none fits (1 to 4)");
        UnreadScript x = new UnreadScript();
        x.account(0, 1);
        check.due("values(0)", x.values(0), 0);
        for (int what = 1; what <= 4; what++) check.due("values(" + what + ")", x.values(what), NONE);
        UnreadScript y = new UnreadScript();
        y.account(Scripts.marks(20, 20, 20, 20), 0);
        check.due("values(0)", y.values(0), 0);
        check.due("values(4)", y.values(4), NONE);
    }

    private static void noTwoAlike() {
        check.promise("17: no two alike");
        for (int a = 0; a < 4; a++) {
            for (int b = 0; b < 4; b++) {
                UnreadScript x = new UnreadScript();
                x.account(1 << 5 * a, 1 << 5 * b);
                check.due("MARK " + a + " is MARK " + b, x.values(0), a == b ? 1680 : 0);
            }
        }
    }

    private static void eachOfTheList() {
        check.promise("17: each one of the LIST (1, 2, 4, 5, 6, 10, 12, 60)");
        // n of MARK 0 are one of MARK 1: how many pairs of the LIST are such.
        for (int n = 2; n <= 20; n++) {
            int pairs = 0;
            for (int a : LIST) {
                for (int b : LIST) {
                    if (n * a == b) pairs++;
                }
            }
            UnreadScript x = new UnreadScript();
            x.account(n, 1 << 5);
            check.due(n + " times", x.values(0), pairs * 30);
            check.due(n + " times, sure(0)", x.sure(0), pairs);
        }
    }

    private static void firstAndLastOfTheList() {
        check.promise("17: the VALUE of MARK what - 1, from 1 to 60");
        for (int mark = 0; mark < 4; mark++) {
            int other = (mark + 1) % 4;
            UnreadScript x = new UnreadScript();
            // Twelve of it are one of another: 1 12 or 5 60; where MARK 0 is neither, it is 1 in the first row.
            x.account(12 << 5 * mark, 1 << 5 * other);
            boolean isLeast = mark == 0 || other == 0;
            check.due("12 times", x.values(0), 2 * 30);
            check.due("1 or 5", x.values(mark + 1), isLeast ? 1 : 5);
            check.due("12 or 60", x.values(other + 1), isLeast ? 12 : 60);
            int third = (mark + 2) % 4;
            x.account(1 << 5 * other, 5 << 5 * third);
            check.due("60 is 5 times 12", x.values(0), 5);
            check.due("5", x.values(mark + 1), 5);
            check.due("60", x.values(other + 1), 60);
            check.due("12", x.values(third + 1), 12);
        }
    }

    private static void inOrderOfRows() {
        check.promise("17: in order of rows (MARK 0 first, by the LIST)");
        UnreadScript x = new UnreadScript();
        // Two of MARK 3 are one of MARK 2: 1 2, 2 4, 5 10, 6 12.
        x.account(Scripts.marks(0, 0, 0, 2), Scripts.marks(0, 0, 1, 0));
        int[] want = {1, 4, 10, 5};
        // MARK 0 is 1: then not 1 2; MARK 1 is 2: then not 2 4; MARK 2 is 10.
        check.due("values(1)", x.values(1), 1);
        check.due("values(2)", x.values(2), 2);
        check.due("values(3)", x.values(3), want[2]);
        check.due("values(4)", x.values(4), want[3]);
        UnreadScript y = new UnreadScript();
        // MARK 0 is twice MARK 1: the first is 2 1, ahead of 4 2.
        y.account(1, 2 << 5);
        int[] twice = {120, 2, 1, 4, 5};
        for (int what = 0; what < 5; what++) check.due("values(" + what + ")", y.values(what), twice[what]);
    }

    private static void eachAccountAddsUp() {
        check.promise("17: so that each ACCOUNT's sum is its total's");
        UnreadScript x = new UnreadScript();
        int left = 1680;
        for (int n = 0; n < 7; n++) {
            x.account(0, 0);
            check.due("values(0)", x.values(0), left);
        }
        x.account(2, 1 << 5);
        check.due("the eighth counts", x.values(0), 120);
        check.due("the ninth does not come", x.account(1, 0), FULL);
        check.due("the ninth does not count", x.values(0), 120);
        UnreadScript y = new UnreadScript();
        y.account(1, 0);
        for (int n = 0; n < 7; n++) y.account(0, 0);
        check.due("the first counts", y.values(0), 0);
    }

    private static void greatestSums() {
        check.promise("17: sums of 20 of each MARK");
        UnreadScript x = new UnreadScript();
        int all = Scripts.marks(20, 20, 20, 0);
        // 20 of three are 3 of the fourth: three that are 9 in all, 60 the fourth; no others.
        x.account(all, Scripts.marks(0, 0, 0, 3));
        check.due("values(0)", x.values(0), 6);
        int[] want = {1, 2, 6, 60};
        for (int mark = 0; mark < 4; mark++) check.due("values", x.values(mark + 1), want[mark]);
        UnreadScript y = new UnreadScript();
        y.account(0, all);
        check.due("none of 0", y.values(0), 0);
    }

    // ---- Promise 18

    private static void sureWithoutSuchMark() {
        check.promise("18: BAD");
        UnreadScript x = new UnreadScript();
        for (int n = 0; n < 2; n++) {
            for (int mark : new int[] {-1, 4, 5, 32, MIN, MAX}) check.due("sure(" + mark + ")", x.sure(mark), BAD);
            x.account(1, 0);
        }
    }

    private static void sureOfNoAccounts() {
        check.promise("18: no ACCOUNTS: 8");
        UnreadScript x = new UnreadScript();
        for (int mark = 0; mark < 4; mark++) check.due("sure(" + mark + ")", x.sure(mark), 8);
    }

    private static void sureFromNoneToEight() {
        check.promise("18: how many VALUES of a MARK there are in them (0 to 8)");
        UnreadScript x = new UnreadScript();
        // 15 of MARK 0 are one of MARK 1: 4 60 alone.
        x.account(15, 1 << 5);
        int[] one = {1, 1, 6, 6};
        for (int mark = 0; mark < 4; mark++) check.due("sure(" + mark + ")", x.sure(mark), one[mark]);
        x.account(1, 0);
        for (int mark = 0; mark < 4; mark++) check.due("none fits", x.sure(mark), 0);
    }
}
