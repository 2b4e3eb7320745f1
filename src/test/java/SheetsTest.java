/** Promises 35 to 37: SHEETS, what there is of each. */
public final class SheetsTest {
    private static final int BAD = -1, NONE = -4;
    private static final Check check = new Check();

    public static void main(String[] args) {
        sheet();
        lay();
        lanes();
        count();
        check.finish();
    }

    private static void sheet() {
        check.promise("promise 35");
        UnreadScript x = new UnreadScript();
        check.due("k -1", x.sheet(-1, 0, 1), BAD);
        check.due("k 4", x.sheet(4, 0, -1), BAD);
        check.due("lane -1", x.sheet(0, -1, 1), BAD);
        check.due("lane 3", x.sheet(0, 3, -1), BAD);
        check.due("n 61", x.sheet(0, 0, 61), BAD);
        check.due("n MAX", x.sheet(0, 0, Integer.MAX_VALUE), BAD);
        check.due("n -1", x.sheet(0, 0, -1), -14);
        check.due("n MIN", x.sheet(0, 0, Integer.MIN_VALUE), -14);
        check.due("nothing yet", x.count(10), NONE);
        check.due("n 60", x.sheet(0, 0, 60), 1);
        check.due("count(10)", x.count(10), 60);
        check.due("n -1 changes nothing", x.sheet(0, 1, -1), -14);
        check.due("count(10)", x.count(10), 60);
        check.due("lane as it was", x.text(0, 0, 0, 1), -20);
        x.form(0);
        x.form(1);
        x.lay(0, 5, 1);
        x.lay(0, 0, 1);
        x.lay(0, 59, 1);
        check.due("cells as told", x.text(0, 0, 5, 1), 0);
        check.due("text", x.textOf(0, 10), 0);
        x.likeness(0);
        check.due("text", x.textOf(0, 10), 1);
        x.sheet(0, 2, 6);
        check.due("the old lane", x.text(0, 0, 5, 1), -13);
        check.due("a new row of 0", x.text(0, 2, 5, 1), 1);
        check.due("cell 0", x.textOf(1, 10), 0);
        check.due("cell 0 too", x.text(0, 2, 0, 1), 2);
        check.due("cell 0 too", x.textOf(2, 10), 0);
        x.sheet(0, 2, 60);
        check.due("cell 59 too", x.text(0, 2, 59, 1), 3);
        check.due("cell 59 too", x.textOf(3, 10), 0);
        check.due("n 0", x.sheet(0, 1, 0), 1);
        check.due("count(10)", x.count(10), 0);
        check.due("another sheet", x.sheet(3, 1, 9), 1);
        check.due("count(10) of sheet 0", x.count(10), 0);
    }

    private static void lay() {
        check.promise("promise 36");
        UnreadScript x = new UnreadScript();
        check.due("k -1", x.lay(-1, 0, 0), BAD);
        check.due("k 4", x.lay(4, 0, 0), BAD);
        check.due("nothing", x.lay(2, -1, 0), -11);
        x.sheet(2, 0, 3);
        check.due("i -1", x.lay(2, -1, 0), -12);
        check.due("i 3", x.lay(2, 3, 0), -12);
        check.due("i MIN", x.lay(2, Integer.MIN_VALUE, 0), -12);
        check.due("i MAX", x.lay(2, Integer.MAX_VALUE, 0), -12);
        check.due("i 2", x.lay(2, 2, 5), 1);
        check.due("i 0", x.lay(2, 0, 5), 1);
        x.sheet(1, 0, 0);
        check.due("no cells", x.lay(1, 0, 0), -12);
        x.sheet(0, 0, 60);
        check.due("i 59", x.lay(0, 59, 0), 1);
        check.due("i 60", x.lay(0, 60, 0), -12);
    }

    private static void lanes() {
        UnreadScript x = Scripts.withForms(2);
        for (int lane = 0; lane < 3; lane++) x.sheet(lane, lane, 3);
        int[] laid = {0x12345601, 0x12340001, 1, 0xfe, 0xfffe, -2, 0xff, 0xffff, -1, 0x80, 0x8000, 2};
        // Of each number laid into BYTES, SHORTS, INTS: the cell found, or -9 where it is none that a TEXT holds.
        int[][] want = {
            {1, -9, -9}, {1, 1, -9}, {1, 1, 1}, {-2, -9, -9}, {-2, -2, -9}, {-2, -2, -2},
            {-1, -9, -9}, {-1, -1, -9}, {-1, -1, -1}, {-9, -9, -9}, {0, -9, -9}, {-9, -9, -9}};
        for (int n = 0; n < laid.length; n++) {
            for (int lane = 0; lane < 3; lane++) {
                check.due("lay", x.lay(lane, 1, laid[n]), 1);
                int got = x.text(lane, lane, 1, 1);
                if (want[n][lane] == -9) {
                    check.due("no cell of a text", got, -20);
                } else {
                    check.due("text", got, 0);
                    check.due("cell", x.textOf(0, 10), want[n][lane]);
                    x.drop();
                }
            }
        }
    }

    private static void count() {
        check.promise("promise 37");
        UnreadScript x = Scripts.withForms(3);
        Scripts.text(x, "ab.a c");
        Scripts.text(x, "c");
        x.account(0, 0);
        x.name(1, 0);
        x.name(1, 0);
        x.word(1, 0);
        x.word(1, 1);
        x.word(1, 2);
        Scripts.claims(x, "sign 1; word 1 on 0; name 1;");
        x.day(9);
        x.withdraw(0);
        Scripts.feed(x, "sign 1 ");
        x.sheet(0, 0, 33);
        int[] want = {3, 2, 5, 1, 2, 3, 3, 2, 9, 7, 33};
        for (int what = 0; what < want.length; what++) check.due("count(" + what + ")", x.count(what), want[what]);
        check.due("count(11)", x.count(11), BAD);
        check.due("count(-1)", x.count(-1), BAD);
        x.drop();
        check.due("count(2)", x.count(2), 4);
        x.likeness(12);
        check.due("count(2) of one sign", x.count(2), 4);
    }
}
